section GS
variable {X : cX} {R : Room} {M : Md} {pc : Nat} {L : List (Nat × Value)} {S : List Value} {μ : mM} {cs sl : Nat} {K : Option Value → mM → Prop}
theorem G_getCS {index : Nat} (hw : Cond.fieldLink M.1.cls index "java/lang/String" "COMPACT_STRINGS" "Z" ∈ TB) (hd : decode M.2.1 pc = .ok (.getstatic index, 3)) (h : G X R M (pc + 3) L (.int 1 :: S) μ cs sl K) : G X R M pc L S μ cs sl K :=
  fun p e s m args below meth c ls H locs hC hL hP hS => va_gets (ref := "java/lang/String") hC.1 hC.2.1 hC.2.2.2.2.2.2.2.2.2.2.2.2.2.2.1 hS hC.2.2.2.2.2.1 (hC.2.2.2.2.2.2.2.1 _ hw) (fun _ h9 => h9) hd (h p e s m args below meth c ls H locs hC hL hP hS)
theorem G_getFM {index : Nat} (hw : Cond.fieldLink M.1.cls index "jdk/internal/util/Preconditions" "SIOOBE_FORMATTER" "Ljava/util/function/BiFunction;" ∈ TB) (hd : decode M.2.1 pc = .ok (.getstatic index, 3)) (h0 : G X R M (pc + 3) L (.null :: S) μ cs sl K) (h1 : ∀ t, G X R M (pc + 3) L (.ref t :: S) μ cs sl K) : G X R M pc L S μ cs sl K := by
  intro p e s m args below meth c ls H locs hC hL hP hS
  rcases hC.2.2.2.2.2.2.2.2.2.2.2.2.2.2.2.1 with hz | ⟨t, hz⟩
  · exact va_gets (ref := "jdk/internal/util/Preconditions") hC.1 hC.2.1 hz hS hC.2.2.2.2.2.1 (hC.2.2.2.2.2.2.2.1 _ hw) (fun _ h9 => h9) hd (h0 p e s m args below meth c ls H locs hC hL hP hS)
  · exact va_gets (ref := "jdk/internal/util/Preconditions") hC.1 hC.2.1 hz hS hC.2.2.2.2.2.1 (hC.2.2.2.2.2.2.2.1 _ hw) (fun _ h9 => h9) hd (h1 t p e s m args below meth c ls H locs hC hL hP hS)
theorem G_sV {index i : Nat} (hi : i < 13) (hw : Cond.fieldLink M.1.cls index "java/lang/String" "value" "[B" ∈ TB) (hd : decode M.2.1 pc = .ok (.getfield index, 3)) (h : G X R M (pc + 3) L (.ref (X.2.2.2.2.2.1 i) :: S) μ cs sl K) : G X R M pc L (.ref (X.2.2.2.2.1 i) :: S) μ cs sl K :=
  fun p e s m args below meth c ls H locs hC hL hP hS => vk_getf (ref := "java/lang/String") hC.1 hC.2.1 (hC.2.2.2.2.2.2.2.2.2.2.2.2.2.1.1 i hi).2.2.1 hS hC.2.2.2.2.2.1 (hC.2.2.2.2.2.2.2.1 _ hw) (fun _ h9 => h9) hd (h p e s m args below meth c ls H locs hC hL hP hS)
theorem G_sC {index i : Nat} (hi : i < 13) (hw : Cond.fieldLink M.1.cls index "java/lang/String" "coder" "B" ∈ TB) (hd : decode M.2.1 pc = .ok (.getfield index, 3)) (h : G X R M (pc + 3) L (.int 0 :: S) μ cs sl K) : G X R M pc L (.ref (X.2.2.2.2.1 i) :: S) μ cs sl K :=
  fun p e s m args below meth c ls H locs hC hL hP hS => vk_getf (ref := "java/lang/String") hC.1 hC.2.1 (hC.2.2.2.2.2.2.2.2.2.2.2.2.2.1.1 i hi).2.1 hS hC.2.2.2.2.2.1 (hC.2.2.2.2.2.2.2.1 _ hw) (fun _ h9 => h9) hd (h p e s m args below meth c ls H locs hC hL hP hS)
theorem G_sLen {i : Nat} (hi : i < 13) (hd : decode M.2.1 pc = .ok (.arraylength, 1)) (h : G X R M (pc + 1) L (.int (nI (strN.getD i 0)) :: S) μ cs sl K) : G X R M pc L (.ref (X.2.2.2.2.2.1 i) :: S) μ cs sl K :=
  fun p e s m args below meth c ls H locs hC hL hP hS => va_tlen hC.1 hC.2.1 (hC.2.2.2.2.2.2.2.2.2.2.2.2.2.1.1 i hi).2.2.2 hS rfl hd (h p e s m args below meth c ls H locs hC hL hP hS)
theorem strN_lt : ∀ i, i < 13 → strN.getD i 0 < 2 ^ 31 := by decide
theorem G_sB {i j : Nat} (hi : i < 13) (hj : j < strN.getD i 0) (hd : decode M.2.1 pc = .ok (.baload, 1)) (h : G X R M (pc + 1) L (.int ((strB.getD i []).getD j 0) :: S) μ cs sl K) : G X R M pc L (.int (nI j) :: .ref (X.2.2.2.2.2.1 i) :: S) μ cs sl K := by
  intro p e s m args below meth c ls H locs hC hL hP hS
  have h31 := strN_lt i hi
  exact va_tb (v := .int ((strB.getD i []).getD j 0)) hC.1 hC.2.1 (hC.2.2.2.2.2.2.2.2.2.2.2.2.2.1.1 i hi).2.2.2 hS (vp_in_nI hj h31) (by rw [nI_clamp (by omega)]) hd (h p e s m args below meth c ls H locs hC hL hP hS)
theorem G_callVS {index i : Nat} {M' : Md} {R' : Room} (As : List Value) (hi : i < 13) (hcn : M'.1.cls = "java/lang/String") (ho : okV M') (hl : Cond.methodLink M.1.cls index M'.1 ∈ TB) (hn : (parseMethodDescriptor M'.1.desc).map (fun d => d.parameters.length) = some As.length) (hR : ru R R' M'.2.2.1 cs sl) (hSt : (S.map fun v => v.category).sum ≤ 8) (hd : decode M.2.1 pc = .ok (.invokevirtual index, 3))
    (h : Ct X R' M' (.ref (X.2.2.2.2.1 i) :: As) μ (fun r μ' => G X R M (pc + 3) L (r.toList ++ S) μ' (cs + R'.cells) (sl + R'.slots) K)) : G X R M pc L (As.reverse ++ .ref (X.2.2.2.2.1 i) :: S) μ cs sl K := by
  intro p e s m args below meth c ls H locs hC hL hP hS
  have hts := hC.2.2.2.2.2.2.2.1
  have hE := hC.2.2.2.2.2.2.2.2
  have hG : GoodIn TB (wsV M.1.cls index M'.1.cls M'.1 (wsOf M')) := fun w hw => by
    simp only [wsV, List.cons_append, List.nil_append, List.mem_cons] at hw
    rcases hw with rfl | rfl | rfl | rfl | hw
    · exact TBg hl
    · exact TBg ho.2.1
    · exact TBg ho.2.2.1
    · exact TBg ho.2.2.2.1
    · exact good_ws ho.1 w hw
  have cw := cwV (R := R) (rm := R') (ret := M'.2.2.2) (bytes := M'.2.1) (maxL := M'.2.2.1) As.length hts hG rfl rfl rfl ⟨rfl, ho.2.2.2.2.1, ho.2.2.2.2.2, hn⟩ ⟨hR.1, hR.2.1⟩
  have hrun := va_runV (As := As) (rest := S) (b := X.2.2.2.2.1 i) (nL := M.2.2.1) (g := F0 m pc ls (As.reverse ++ .ref (X.2.2.2.2.1 i) :: S)) (e := e) (below := below) (meth := meth) (H := H) (locs := locs) (cells := cs) (slots := sl) ⟨hC.1, hC.2.1, hC.2.2.2.2.1, hC.2.2.2.2.2.1, hts⟩ h cw ⟨blind, (by rw [hcn]; exact vk_recv hE.2.2.2.2.2.1 hi hS), fun U hU hW => ⟨rfl, by rw [hU]; exact hP, En_step hE hS hU hW⟩⟩ rfl rfl hL.1 rfl (lv_room hSt) hd ⟨hR.2.2.1, hR.2.2.2⟩
  exact run_back hrun hC hL hS
theorem G_scLd {j : Nat} (hj : j < X.2.2.2.2.2.2.2.1) (h31 : X.2.2.2.2.2.2.2.1 < 2 ^ 31) (hd : decode M.2.1 pc = .ok (.iaload, 1)) (h : G X R M (pc + 1) L (.int (X.2.2.2.2.2.2.2.2 j) :: S) μ cs sl K) : G X R M pc L (.int (nI j) :: .ref X.2.2.2.2.2.2.1 :: S) μ cs sl K := by
  intro p e s m args below meth c ls H locs hC hL hP hS
  have hE := hC.2.2.2.2.2.2.2.2
  refine va_sld hC.1 hC.2.1 hE.2.2.2.2.2.2.2.2.1 (by have := hE.1; have := hE.2.2.2.2.2.2.2.2.2; omega) (fun q => by have h9 : X.2.1 ≤ _ := q; have := hE.2.2.2.2.2.2.2.2.2; omega) hS (vp_in_nI hj h31) hd ?_
  rw [nI_clamp (by omega)]
  exact h p e s m args below meth c ls H locs hC hL hP hS
theorem G_scLen (hd : decode M.2.1 pc = .ok (.arraylength, 1)) (h : G X R M (pc + 1) L (.int (nI X.2.2.2.2.2.2.2.1) :: S) μ cs sl K) : G X R M pc L (.ref X.2.2.2.2.2.2.1 :: S) μ cs sl K := by
  intro p e s m args below meth c ls H locs hC hL hP hS
  have hE := hC.2.2.2.2.2.2.2.2
  exact va_slen hC.1 hC.2.1 hE.2.2.2.2.2.2.2.2.1 (by have := hE.1; have := hE.2.2.2.2.2.2.2.2.2; omega) (fun q => by have h9 : X.2.1 ≤ _ := q; have := hE.2.2.2.2.2.2.2.2.2; omega) hS hd (h p e s m args below meth c ls H locs hC hL hP hS)
end GS

set_option maxRecDepth 100000 in
theorem flS_38 : Cond.fieldLink RJ0 38 "java/lang/String" "COMPACT_STRINGS" "Z" ∈ TB := TB_t2 175 rfl (by decide +kernel)
set_option maxRecDepth 100000 in
theorem flS_9 : Cond.fieldLink RJ0 9 "java/lang/String" "value" "[B" ∈ TB := TB_t6 156 rfl (by decide +kernel)
set_option maxRecDepth 100000 in
theorem flS_15 : Cond.fieldLink RJ0 15 "java/lang/String" "coder" "B" ∈ TB := TB_t6 157 rfl (by decide +kernel)
set_option maxRecDepth 100000 in
theorem flS_1053 : Cond.fieldLink RJ0 1053 "jdk/internal/util/Preconditions" "SIOOBE_FORMATTER" "Ljava/util/function/BiFunction;" ∈ TB := TB_t2 191 rfl (by decide +kernel)
theorem d_J0_length_8abf5_0 : decode cJ0_length_8abf5 0 = .ok (.aload_n 0, 1) := by decide +kernel
theorem d_J0_length_8abf5_1 : decode cJ0_length_8abf5 1 = .ok (.getfield 9, 3) := by decide +kernel
theorem d_J0_length_8abf5_4 : decode cJ0_length_8abf5 4 = .ok (.arraylength, 1) := by decide +kernel
theorem d_J0_length_8abf5_5 : decode cJ0_length_8abf5 5 = .ok (.aload_n 0, 1) := by decide +kernel
theorem d_J0_length_8abf5_6 : decode cJ0_length_8abf5 6 = .ok (.invokevirtual 335, 3) := by decide +kernel
theorem d_J0_length_8abf5_9 : decode cJ0_length_8abf5 9 = .ok (.ishr, 1) := by decide +kernel
theorem d_J0_length_8abf5_10 : decode cJ0_length_8abf5 10 = .ok (.ireturn, 1) := by decide +kernel
theorem d_J0_coder_7d493_0 : decode cJ0_coder_7d493 0 = .ok (.getstatic 38, 3) := by decide +kernel
theorem d_J0_coder_7d493_3 : decode cJ0_coder_7d493 3 = .ok (.ifCond .eq 10, 3) := by decide +kernel
theorem d_J0_coder_7d493_6 : decode cJ0_coder_7d493 6 = .ok (.aload_n 0, 1) := by decide +kernel
theorem d_J0_coder_7d493_7 : decode cJ0_coder_7d493 7 = .ok (.getfield 15, 3) := by decide +kernel
theorem d_J0_coder_7d493_10 : decode cJ0_coder_7d493 10 = .ok (.goto 4, 3) := by decide +kernel
theorem d_J0_coder_7d493_13 : decode cJ0_coder_7d493 13 = .ok (.iconst 1, 1) := by decide +kernel
theorem d_J0_coder_7d493_14 : decode cJ0_coder_7d493 14 = .ok (.ireturn, 1) := by decide +kernel
theorem d_J0_isLatin1_aae02_0 : decode cJ0_isLatin1_aae02 0 = .ok (.getstatic 38, 3) := by decide +kernel
theorem d_J0_isLatin1_aae02_3 : decode cJ0_isLatin1_aae02 3 = .ok (.ifCond .eq 14, 3) := by decide +kernel
theorem d_J0_isLatin1_aae02_6 : decode cJ0_isLatin1_aae02 6 = .ok (.aload_n 0, 1) := by decide +kernel
theorem d_J0_isLatin1_aae02_7 : decode cJ0_isLatin1_aae02 7 = .ok (.getfield 15, 3) := by decide +kernel
theorem d_J0_isLatin1_aae02_10 : decode cJ0_isLatin1_aae02 10 = .ok (.ifCond .ne 7, 3) := by decide +kernel
theorem d_J0_isLatin1_aae02_13 : decode cJ0_isLatin1_aae02 13 = .ok (.iconst 1, 1) := by decide +kernel
theorem d_J0_isLatin1_aae02_14 : decode cJ0_isLatin1_aae02 14 = .ok (.goto 4, 3) := by decide +kernel
theorem d_J0_isLatin1_aae02_17 : decode cJ0_isLatin1_aae02 17 = .ok (.iconst 0, 1) := by decide +kernel
theorem d_J0_isLatin1_aae02_18 : decode cJ0_isLatin1_aae02 18 = .ok (.ireturn, 1) := by decide +kernel
theorem d_J0_charAt_5068e_0 : decode cJ0_charAt_5068e 0 = .ok (.aload_n 0, 1) := by decide +kernel
theorem d_J0_charAt_5068e_1 : decode cJ0_charAt_5068e 1 = .ok (.invokevirtual 492, 3) := by decide +kernel
theorem d_J0_charAt_5068e_4 : decode cJ0_charAt_5068e 4 = .ok (.ifCond .eq 12, 3) := by decide +kernel
theorem d_J0_charAt_5068e_7 : decode cJ0_charAt_5068e 7 = .ok (.aload_n 0, 1) := by decide +kernel
theorem d_J0_charAt_5068e_8 : decode cJ0_charAt_5068e 8 = .ok (.getfield 9, 3) := by decide +kernel
theorem d_J0_charAt_5068e_11 : decode cJ0_charAt_5068e 11 = .ok (.iload_n 1, 1) := by decide +kernel
theorem d_J0_charAt_5068e_12 : decode cJ0_charAt_5068e 12 = .ok (.invokestatic 495, 3) := by decide +kernel
theorem d_J0_charAt_5068e_15 : decode cJ0_charAt_5068e 15 = .ok (.ireturn, 1) := by decide +kernel
theorem d_J0_charAt_5068e_16 : decode cJ0_charAt_5068e 16 = .ok (.aload_n 0, 1) := by decide +kernel
theorem d_J0_charAt_5068e_17 : decode cJ0_charAt_5068e 17 = .ok (.getfield 9, 3) := by decide +kernel
theorem d_J0_charAt_5068e_20 : decode cJ0_charAt_5068e 20 = .ok (.iload_n 1, 1) := by decide +kernel
theorem d_J0_charAt_5068e_21 : decode cJ0_charAt_5068e 21 = .ok (.invokestatic 498, 3) := by decide +kernel
theorem d_J0_charAt_5068e_24 : decode cJ0_charAt_5068e 24 = .ok (.ireturn, 1) := by decide +kernel
theorem d_J1_charAt_3b067_0 : decode cJ1_charAt_3b067 0 = .ok (.iload_n 1, 1) := by decide +kernel
theorem d_J1_charAt_3b067_1 : decode cJ1_charAt_3b067 1 = .ok (.aload_n 0, 1) := by decide +kernel
theorem d_J1_charAt_3b067_2 : decode cJ1_charAt_3b067 2 = .ok (.arraylength, 1) := by decide +kernel
theorem d_J1_charAt_3b067_3 : decode cJ1_charAt_3b067 3 = .ok (.invokestatic 9, 3) := by decide +kernel
theorem d_J1_charAt_3b067_6 : decode cJ1_charAt_3b067 6 = .ok (.aload_n 0, 1) := by decide +kernel
theorem d_J1_charAt_3b067_7 : decode cJ1_charAt_3b067 7 = .ok (.iload_n 1, 1) := by decide +kernel
theorem d_J1_charAt_3b067_8 : decode cJ1_charAt_3b067 8 = .ok (.baload, 1) := by decide +kernel
theorem d_J1_charAt_3b067_9 : decode cJ1_charAt_3b067 9 = .ok (.sipush 255, 3) := by decide +kernel
theorem d_J1_charAt_3b067_12 : decode cJ1_charAt_3b067 12 = .ok (.iand, 1) := by decide +kernel
theorem d_J1_charAt_3b067_13 : decode cJ1_charAt_3b067 13 = .ok (.i2c, 1) := by decide +kernel
theorem d_J1_charAt_3b067_14 : decode cJ1_charAt_3b067 14 = .ok (.ireturn, 1) := by decide +kernel
theorem d_J0_checkIndex_df160_0 : decode cJ0_checkIndex_df160 0 = .ok (.iload_n 0, 1) := by decide +kernel
theorem d_J0_checkIndex_df160_1 : decode cJ0_checkIndex_df160 1 = .ok (.iload_n 1, 1) := by decide +kernel
theorem d_J0_checkIndex_df160_2 : decode cJ0_checkIndex_df160 2 = .ok (.getstatic 1053, 3) := by decide +kernel
theorem d_J0_checkIndex_df160_5 : decode cJ0_checkIndex_df160 5 = .ok (.invokestatic 1059, 3) := by decide +kernel
theorem d_J0_checkIndex_df160_8 : decode cJ0_checkIndex_df160 8 = .ok (.pop, 1) := by decide +kernel
theorem d_J0_checkIndex_df160_9 : decode cJ0_checkIndex_df160 9 = .ok (.return_, 1) := by decide +kernel
theorem d_J3_checkIndex_8e157_0 : decode cJ3_checkIndex_8e157 0 = .ok (.iload_n 0, 1) := by decide +kernel
theorem d_J3_checkIndex_8e157_1 : decode cJ3_checkIndex_8e157 1 = .ok (.ifCond .lt 8, 3) := by decide +kernel
theorem d_J3_checkIndex_8e157_4 : decode cJ3_checkIndex_8e157 4 = .ok (.iload_n 0, 1) := by decide +kernel
theorem d_J3_checkIndex_8e157_5 : decode cJ3_checkIndex_8e157 5 = .ok (.iload_n 1, 1) := by decide +kernel
theorem d_J3_checkIndex_8e157_6 : decode cJ3_checkIndex_8e157 6 = .ok (.if_icmp .lt 10, 3) := by decide +kernel
theorem d_J3_checkIndex_8e157_9 : decode cJ3_checkIndex_8e157 9 = .ok (.aload_n 2, 1) := by decide +kernel
theorem d_J3_checkIndex_8e157_10 : decode cJ3_checkIndex_8e157 10 = .ok (.iload_n 0, 1) := by decide +kernel
theorem d_J3_checkIndex_8e157_11 : decode cJ3_checkIndex_8e157 11 = .ok (.iload_n 1, 1) := by decide +kernel
theorem d_J3_checkIndex_8e157_12 : decode cJ3_checkIndex_8e157 12 = .ok (.invokestatic 95, 3) := by decide +kernel
theorem d_J3_checkIndex_8e157_15 : decode cJ3_checkIndex_8e157 15 = .ok (.athrow, 1) := by decide +kernel
theorem d_J3_checkIndex_8e157_16 : decode cJ3_checkIndex_8e157 16 = .ok (.iload_n 0, 1) := by decide +kernel
theorem d_J3_checkIndex_8e157_17 : decode cJ3_checkIndex_8e157 17 = .ok (.ireturn, 1) := by decide +kernel
section GT
variable {X : cX} {d : Nat} {μ : mM} {K : Option Value → mM → Prop} {i j : Nat}
theorem s_coder (hi : i < 13) (hK : K (some (.int 0)) μ) : Ct X (Rm d) mJ0_coder_7d493 [.ref (X.2.2.2.2.1 i)] μ K := by
  refine Ct_of rfl (Nat.le_of_ble_eq_true rfl) ?_
  show G X (Rm d) mJ0_coder_7d493 0 [(0, .ref (X.2.2.2.2.1 i))] [] μ 0 0 K
  refine G_getCS flS_38 d_J0_coder_7d493_0 ?_
  refine G_if_eq (tgt := 13) d_J0_coder_7d493_3 rfl (fun c => absurd c (by decide)) (fun _ => ?_)
  refine G_aload_n d_J0_coder_7d493_6 rfl 0 rfl ?_
  refine G_sC hi flS_15 d_J0_coder_7d493_7 ?_
  refine G_goto (tgt := 14) d_J0_coder_7d493_10 rfl ?_
  exact G_zret rfl rfl rfl rfl d_J0_coder_7d493_14 hK
theorem s_isLatin1 (hi : i < 13) (hK : K (some (.int 1)) μ) : Ct X (Rm d) mJ0_isLatin1_aae02 [.ref (X.2.2.2.2.1 i)] μ K := by
  refine Ct_of rfl (Nat.le_of_ble_eq_true rfl) ?_
  show G X (Rm d) mJ0_isLatin1_aae02 0 [(0, .ref (X.2.2.2.2.1 i))] [] μ 0 0 K
  refine G_getCS flS_38 d_J0_isLatin1_aae02_0 ?_
  refine G_if_eq (tgt := 17) d_J0_isLatin1_aae02_3 rfl (fun c => absurd c (by decide)) (fun _ => ?_)
  refine G_aload_n d_J0_isLatin1_aae02_6 rfl 0 rfl ?_
  refine G_sC hi flS_15 d_J0_isLatin1_aae02_7 ?_
  refine G_if_ne (tgt := 17) d_J0_isLatin1_aae02_10 rfl (fun c => absurd rfl c) (fun _ => ?_)
  refine G_iconst d_J0_isLatin1_aae02_13 ic_1 ?_
  refine G_goto (tgt := 18) d_J0_isLatin1_aae02_14 rfl ?_
  exact G_zret rfl rfl rfl rfl d_J0_isLatin1_aae02_18 hK
theorem s_slen (hi : i < 13) (hK : K (some (.int (nI (strN.getD i 0)))) μ) : Ct X (Rm (d + 1)) mJ0_length_8abf5 [.ref (X.2.2.2.2.1 i)] μ K := by
  refine Ct_of rfl (Nat.le_of_ble_eq_true rfl) ?_
  show G X (Rm (d + 1)) mJ0_length_8abf5 0 [(0, .ref (X.2.2.2.2.1 i))] [] μ 0 0 K
  refine G_aload_n d_J0_length_8abf5_0 rfl 0 rfl ?_
  refine G_sV hi flS_9 d_J0_length_8abf5_1 ?_
  refine G_sLen hi d_J0_length_8abf5_4 ?_
  refine G_aload_n d_J0_length_8abf5_5 rfl 0 rfl ?_
  refine G_callVS (M' := mJ0_coder_7d493) (R' := Rm d) (S := [.int (nI (strN.getD i 0))]) (i := i) [] hi rfl ok_J0_coder_7d493 ml_J0_335 pn_J0_coder_7d493 (ru_Rm (by decide)) (Nat.le_of_ble_eq_true rfl) d_J0_length_8abf5_6 (s_coder hi ?_)
  show G X (Rm (d + 1)) mJ0_length_8abf5 9 [(0, .ref (X.2.2.2.2.1 i))] [.int 0, .int (nI (strN.getD i 0))] μ 0 0 K
  refine G_ishr d_J0_length_8abf5_9 ?_
  rw [sb_shr0]
  exact G_iret rfl rfl rfl d_J0_length_8abf5_10 hK
theorem pci_core {n : Nat} {w : Value} (hj : j < n) (hn : n < 2 ^ 31) (hK : K (some (.int (nI j))) μ) : G X (Rm d) mJ3_checkIndex_8e157 0 [(0, .int (nI j)), (1, .int (nI n))] [] μ 0 0 K := by
  refine G_iload_n d_J3_checkIndex_8e157_0 rfl 0 rfl ?_
  refine G_if_lt (tgt := 9) d_J3_checkIndex_8e157_1 rfl (fun c => absurd c (nI_pos (by omega))) (fun _ => ?_)
  refine G_iload_n d_J3_checkIndex_8e157_4 rfl 0 rfl ?_
  refine G_iload_n d_J3_checkIndex_8e157_5 rfl 1 rfl ?_
  refine G_icmp_lt (tgt := 16) d_J3_checkIndex_8e157_6 rfl (fun _ => ?_) (fun c => absurd (nI_lt hj hn) c)
  refine G_iload_n d_J3_checkIndex_8e157_16 rfl 0 rfl ?_
  exact G_iret rfl rfl rfl d_J3_checkIndex_8e157_17 hK
theorem s_pci0 {n : Nat} (hj : j < n) (hn : n < 2 ^ 31) (hK : K (some (.int (nI j))) μ) : Ct X (Rm d) mJ3_checkIndex_8e157 [.int (nI j), .int (nI n), .null] μ K := by
  refine Ct_of rfl (Nat.le_of_ble_eq_true rfl) ?_
  show G X (Rm d) mJ3_checkIndex_8e157 0 [(0, .int (nI j)), (1, .int (nI n)), (2, .null)] [] μ 0 0 K
  exact G_sub [0, 1] rfl (pci_core (w := .null) hj hn hK)
theorem s_pci1 {n t : Nat} (hj : j < n) (hn : n < 2 ^ 31) (hK : K (some (.int (nI j))) μ) : Ct X (Rm d) mJ3_checkIndex_8e157 [.int (nI j), .int (nI n), .ref t] μ K := by
  refine Ct_of rfl (Nat.le_of_ble_eq_true rfl) ?_
  show G X (Rm d) mJ3_checkIndex_8e157 0 [(0, .int (nI j)), (1, .int (nI n)), (2, .ref t)] [] μ 0 0 K
  exact G_sub [0, 1] rfl (pci_core (w := .null) hj hn hK)
theorem s_sci {n : Nat} (hj : j < n) (hn : n < 2 ^ 31) (hK : K none μ) : Ct X (Rm (d + 1)) mJ0_checkIndex_df160 [.int (nI j), .int (nI n)] μ K := by
  refine Ct_of rfl (Nat.le_of_ble_eq_true rfl) ?_
  show G X (Rm (d + 1)) mJ0_checkIndex_df160 0 [(0, .int (nI j)), (1, .int (nI n))] [] μ 0 0 K
  refine G_iload_n d_J0_checkIndex_df160_0 rfl 0 rfl ?_
  refine G_iload_n d_J0_checkIndex_df160_1 rfl 1 rfl ?_
  have tail : G X (Rm (d + 1)) mJ0_checkIndex_df160 8 [(0, .int (nI j)), (1, .int (nI n))] [.int (nI j)] μ 0 0 K := by
    refine G_pop d_J0_checkIndex_df160_8 rfl ?_
    exact G_vret rfl rfl rfl d_J0_checkIndex_df160_9 hK
  refine G_getFM flS_1053 d_J0_checkIndex_df160_2 ?_ (fun t => ?_)
  · exact G_callS (M' := mJ3_checkIndex_8e157) (R' := Rm d) (S := []) [.int (nI j), .int (nI n), .null] ok_J3_checkIndex_8e157 ml_J0_1059 pn_J3_checkIndex_8e157 (ru_Rm (by decide)) (Nat.le_of_ble_eq_true rfl) d_J0_checkIndex_df160_5 (s_pci0 hj hn tail)
  · exact G_callS (M' := mJ3_checkIndex_8e157) (R' := Rm d) (S := []) [.int (nI j), .int (nI n), .ref t] ok_J3_checkIndex_8e157 ml_J0_1059 pn_J3_checkIndex_8e157 (ru_Rm (by decide)) (Nat.le_of_ble_eq_true rfl) d_J0_checkIndex_df160_5 (s_pci1 hj hn tail)
theorem strB_ok : ∀ i, i < 13 → ∀ j, j < strN.getD i 0 → ((((strB.getD i []).getD j 0) &&& 255).toUInt32 % 65536).toInt32 = (strB.getD i []).getD j 0 ∧ narrow .char (.int ((strB.getD i []).getD j 0)) = .int ((strB.getD i []).getD j 0) := by
  intro i hi j hj
  have h13 : i = 0 ∨ i = 1 ∨ i = 2 ∨ i = 3 ∨ i = 4 ∨ i = 5 ∨ i = 6 ∨ i = 7 ∨ i = 8 ∨ i = 9 ∨ i = 10 ∨ i = 11 ∨ i = 12 := by omega
  have h5 : j < 5 := by
    rcases h13 with rfl | rfl | rfl | rfl | rfl | rfl | rfl | rfl | rfl | rfl | rfl | rfl | rfl <;> (simp [strN] at hj; omega)
  have hj5 : j = 0 ∨ j = 1 ∨ j = 2 ∨ j = 3 ∨ j = 4 := by omega
  rcases h13 with rfl | rfl | rfl | rfl | rfl | rfl | rfl | rfl | rfl | rfl | rfl | rfl | rfl <;> rcases hj5 with rfl | rfl | rfl | rfl | rfl <;> exact ⟨by decide, by rfl⟩
theorem s_lch (hi : i < 13) (hj : j < strN.getD i 0) (hK : K (some (.int ((strB.getD i []).getD j 0))) μ) : Ct X (Rm (d + 2)) mJ1_charAt_3b067 [.ref (X.2.2.2.2.2.1 i), .int (nI j)] μ K := by
  refine Ct_of rfl (Nat.le_of_ble_eq_true rfl) ?_
  show G X (Rm (d + 2)) mJ1_charAt_3b067 0 [(0, .ref (X.2.2.2.2.2.1 i)), (1, .int (nI j))] [] μ 0 0 K
  refine G_iload_n d_J1_charAt_3b067_0 rfl 1 rfl ?_
  refine G_aload_n d_J1_charAt_3b067_1 rfl 0 rfl ?_
  refine G_sLen hi d_J1_charAt_3b067_2 ?_
  refine G_callS (M' := mJ0_checkIndex_df160) (R' := Rm (d + 1)) (S := []) [.int (nI j), .int (nI (strN.getD i 0))] ok_J0_checkIndex_df160 ml_J1_9 pn_J0_checkIndex_df160 (ru_Rm (by decide)) (Nat.le_of_ble_eq_true rfl) d_J1_charAt_3b067_3 (s_sci hj (strN_lt i hi) ?_)
  show G X (Rm (d + 2)) mJ1_charAt_3b067 6 [(0, .ref (X.2.2.2.2.2.1 i)), (1, .int (nI j))] [] μ 0 0 K
  refine G_aload_n d_J1_charAt_3b067_6 rfl 0 rfl ?_
  refine G_iload_n d_J1_charAt_3b067_7 rfl 1 rfl ?_
  refine G_sB hi hj d_J1_charAt_3b067_8 ?_
  refine G_sipush d_J1_charAt_3b067_9 sp_255 ?_
  refine G_iand d_J1_charAt_3b067_12 ?_
  refine G_i2c d_J1_charAt_3b067_13 (strB_ok i hi j hj).1 ?_
  exact G_zret rfl (strB_ok i hi j hj).2 rfl rfl d_J1_charAt_3b067_14 hK
theorem s_schar (hi : i < 13) (hj : j < strN.getD i 0) (hK : K (some (.int ((strB.getD i []).getD j 0))) μ) : Ct X (Rm (d + 3)) mJ0_charAt_5068e [.ref (X.2.2.2.2.1 i), .int (nI j)] μ K := by
  refine Ct_of rfl (Nat.le_of_ble_eq_true rfl) ?_
  show G X (Rm (d + 3)) mJ0_charAt_5068e 0 [(0, .ref (X.2.2.2.2.1 i)), (1, .int (nI j))] [] μ 0 0 K
  refine G_aload_n d_J0_charAt_5068e_0 rfl 0 rfl ?_
  refine G_callVS (M' := mJ0_isLatin1_aae02) (R' := Rm (d + 2)) (S := []) (i := i) [] hi rfl ok_J0_isLatin1_aae02 ml_J0_492 pn_J0_isLatin1_aae02 (ru_Rm (by decide)) (Nat.le_of_ble_eq_true rfl) d_J0_charAt_5068e_1 (s_isLatin1 hi ?_)
  show G X (Rm (d + 3)) mJ0_charAt_5068e 4 [(0, .ref (X.2.2.2.2.1 i)), (1, .int (nI j))] [.int 1] μ 0 0 K
  refine G_if_eq (tgt := 16) d_J0_charAt_5068e_4 rfl (fun c => absurd c (by decide)) (fun _ => ?_)
  refine G_aload_n d_J0_charAt_5068e_7 rfl 0 rfl ?_
  refine G_sV hi flS_9 d_J0_charAt_5068e_8 ?_
  refine G_iload_n d_J0_charAt_5068e_11 rfl 1 rfl ?_
  refine G_callS (M' := mJ1_charAt_3b067) (R' := Rm (d + 2)) (S := []) [.ref (X.2.2.2.2.2.1 i), .int (nI j)] ok_J1_charAt_3b067 ml_J0_495 pn_J1_charAt_3b067 (ru_Rm (by decide)) (Nat.le_of_ble_eq_true rfl) d_J0_charAt_5068e_12 (s_lch hi hj ?_)
  show G X (Rm (d + 3)) mJ0_charAt_5068e 15 [(0, .ref (X.2.2.2.2.1 i)), (1, .int (nI j))] [.int ((strB.getD i []).getD j 0)] μ 0 0 K
  exact G_zret rfl (strB_ok i hi j hj).2 rfl rfl d_J0_charAt_5068e_15 hK
end GT
