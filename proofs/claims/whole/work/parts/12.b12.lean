theorem d_X11_covers_0 : decode cX11_covers 0 = .ok (.iload_n 1, 1) := by decide +kernel
theorem d_X11_covers_1 : decode cX11_covers 1 = .ok (.invokestatic 228, 3) := by decide +kernel
theorem d_X11_covers_4 : decode cX11_covers 4 = .ok (.ifCond .eq 10, 3) := by decide +kernel
theorem d_X11_covers_7 : decode cX11_covers 7 = .ok (.iload_n 2, 1) := by decide +kernel
theorem d_X11_covers_8 : decode cX11_covers 8 = .ok (.invokestatic 193, 3) := by decide +kernel
theorem d_X11_covers_11 : decode cX11_covers 11 = .ok (.ifCond .ne 5, 3) := by decide +kernel
theorem d_X11_covers_14 : decode cX11_covers 14 = .ok (.iconst (-1), 1) := by decide +kernel
theorem d_X11_covers_15 : decode cX11_covers 15 = .ok (.ireturn, 1) := by decide +kernel
theorem d_X11_covers_16 : decode cX11_covers 16 = .ok (.aload_n 0, 1) := by decide +kernel
theorem d_X11_covers_17 : decode cX11_covers 17 = .ok (.getfield 36, 3) := by decide +kernel
theorem d_X11_covers_20 : decode cX11_covers 20 = .ok (.iload_n 1, 1) := by decide +kernel
theorem d_X11_covers_21 : decode cX11_covers 21 = .ok (.baload, 1) := by decide +kernel
theorem d_X11_covers_22 : decode cX11_covers 22 = .ok (.ifCond .ne 6, 3) := by decide +kernel
theorem d_X11_covers_25 : decode cX11_covers 25 = .ok (.bipush (-2), 2) := by decide +kernel
theorem d_X11_covers_27 : decode cX11_covers 27 = .ok (.ireturn, 1) := by decide +kernel
theorem d_X11_covers_28 : decode cX11_covers 28 = .ok (.iload_n 2, 1) := by decide +kernel
theorem d_X11_covers_29 : decode cX11_covers 29 = .ok (.ifCond .ne 26, 3) := by decide +kernel
theorem d_X11_covers_32 : decode cX11_covers 32 = .ok (.aload_n 0, 1) := by decide +kernel
theorem d_X11_covers_33 : decode cX11_covers 33 = .ok (.getfield 82, 3) := by decide +kernel
theorem d_X11_covers_36 : decode cX11_covers 36 = .ok (.aload_n 0, 1) := by decide +kernel
theorem d_X11_covers_37 : decode cX11_covers 37 = .ok (.getfield 26, 3) := by decide +kernel
theorem d_X11_covers_40 : decode cX11_covers 40 = .ok (.getfield 114, 3) := by decide +kernel
theorem d_X11_covers_43 : decode cX11_covers 43 = .ok (.aload_n 0, 1) := by decide +kernel
theorem d_X11_covers_44 : decode cX11_covers 44 = .ok (.getfield 32, 3) := by decide +kernel
theorem d_X11_covers_47 : decode cX11_covers 47 = .ok (.iload_n 1, 1) := by decide +kernel
theorem d_X11_covers_48 : decode cX11_covers 48 = .ok (.aaload, 1) := by decide +kernel
theorem d_X11_covers_49 : decode cX11_covers 49 = .ok (.invokevirtual 235, 3) := by decide +kernel
theorem d_X11_covers_52 : decode cX11_covers 52 = .ok (.goto 23, 3) := by decide +kernel
theorem d_X11_covers_55 : decode cX11_covers 55 = .ok (.aload_n 0, 1) := by decide +kernel
theorem d_X11_covers_56 : decode cX11_covers 56 = .ok (.getfield 82, 3) := by decide +kernel
theorem d_X11_covers_59 : decode cX11_covers 59 = .ok (.aload_n 0, 1) := by decide +kernel
theorem d_X11_covers_60 : decode cX11_covers 60 = .ok (.getfield 32, 3) := by decide +kernel
theorem d_X11_covers_63 : decode cX11_covers 63 = .ok (.iload_n 1, 1) := by decide +kernel
theorem d_X11_covers_64 : decode cX11_covers 64 = .ok (.aaload, 1) := by decide +kernel
theorem d_X11_covers_65 : decode cX11_covers 65 = .ok (.aload_n 0, 1) := by decide +kernel
theorem d_X11_covers_66 : decode cX11_covers 66 = .ok (.getfield 26, 3) := by decide +kernel
theorem d_X11_covers_69 : decode cX11_covers 69 = .ok (.getfield 114, 3) := by decide +kernel
theorem d_X11_covers_72 : decode cX11_covers 72 = .ok (.invokevirtual 235, 3) := by decide +kernel
theorem d_X11_covers_75 : decode cX11_covers 75 = .ok (.istore_n 3, 1) := by decide +kernel
theorem d_X11_covers_76 : decode cX11_covers 76 = .ok (.iload_n 3, 1) := by decide +kernel
theorem d_X11_covers_77 : decode cX11_covers 77 = .ok (.ifCond .eq 7, 3) := by decide +kernel
theorem d_X11_covers_80 : decode cX11_covers 80 = .ok (.iconst 1, 1) := by decide +kernel
theorem d_X11_covers_81 : decode cX11_covers 81 = .ok (.goto 4, 3) := by decide +kernel
theorem d_X11_covers_84 : decode cX11_covers 84 = .ok (.iconst 0, 1) := by decide +kernel
theorem d_X11_covers_85 : decode cX11_covers 85 = .ok (.ireturn, 1) := by decide +kernel
theorem b_X11_covers_0 {X : cX} {d : Nat} {μ : mM} {K : Option Value → mM → Prop} {r0 : Nat} {i1 : Nat} {l2 : Int32} {p0 : Nat} (hK : (e_X11_isImage μ (nI i1)) = 0 → K (some (.int (-1))) μ) (hw11_r0 : WF11 μ r0) (hb : ¬ (e_X11_isImage μ (nI i1)) = 0 → ¬ (e_X11_isSwitch μ l2) = 0 → i1 < 2) (hb_2 : ¬ (e_X11_isImage μ (nI i1)) = 0 → ¬ (e_X11_isSwitch μ l2) = 0 → ¬ (iv μ (r0 + 121) i1) = 0 → ¬ l2 = 0 → i1 < 2) (hr_p0 : rv μ r0 2 = some p0) (hw10_p0 : WF10 μ p0) (hw0_r0201 : WF0 μ (r0 + 201)) (hc_holds : ¬ (e_X11_isImage μ (nI i1)) = 0 → ¬ (e_X11_isSwitch μ l2) = 0 → ¬ (iv μ (r0 + 121) i1) = 0 → ¬ l2 = 0 → Ct X (Rm (d + 3)) mX0_holds [.ref (r0 + 201), .ref (r0 + 204 + 24 * i1), .ref (p0 + 1)] μ (fun r μ2 => G X (Rm (d + 4)) mX11_covers 75 [] (r.toList ++ []) μ2 0 0 K)) (hb_3 : ¬ (e_X11_isImage μ (nI i1)) = 0 → ¬ (e_X11_isSwitch μ l2) = 0 → ¬ (iv μ (r0 + 121) i1) = 0 → l2 = 0 → i1 < 2) (hc_holds_2 : ¬ (e_X11_isImage μ (nI i1)) = 0 → ¬ (e_X11_isSwitch μ l2) = 0 → ¬ (iv μ (r0 + 121) i1) = 0 → l2 = 0 → Ct X (Rm (d + 3)) mX0_holds [.ref (r0 + 201), .ref (p0 + 1), .ref (r0 + 204 + 24 * i1)] μ (fun r μ2 => G X (Rm (d + 4)) mX11_covers 52 [] (r.toList ++ []) μ2 0 0 K)) (hK_2 : ¬ (e_X11_isImage μ (nI i1)) = 0 → ¬ (e_X11_isSwitch μ l2) = 0 → (iv μ (r0 + 121) i1) = 0 → K (some (.int (-2))) μ) (hK_3 : ¬ (e_X11_isImage μ (nI i1)) = 0 → (e_X11_isSwitch μ l2) = 0 → K (some (.int (-1))) μ) : G X (Rm (d + 4)) mX11_covers 0 [(0, .ref r0), (1, .int (nI i1)), (2, .int l2)] [] μ 0 0 K := by
  refine G_iload_n d_X11_covers_0 rfl 1 rfl ?_
  refine G_callS (M' := mX11_isImage) (R' := (Rm (d + 3))) (S := []) [.int (nI i1)] ok_X11_isImage ml_X11_228 pn_X11_isImage (ru_Rm (by decide)) (Nat.le_of_ble_eq_true rfl) d_X11_covers_1 (s_X11_isImage (μ := μ)   ?_)
  show G X (Rm (d + 4)) mX11_covers 4 [(0, .ref r0), (1, .int (nI i1)), (2, .int l2)] [.int (e_X11_isImage μ (nI i1))] μ 0 0 K
  refine G_if_eq (tgt := 14) d_X11_covers_4 rfl (fun c0 => ?_) (fun c0 => ?_)
  ·
    refine G_iconst d_X11_covers_14 ic_m1 ?_
    exact G_iret rfl rfl rfl d_X11_covers_15 (hK c0)
  ·
    refine G_iload_n d_X11_covers_7 rfl 2 rfl ?_
    refine G_callS (M' := mX11_isSwitch) (R' := (Rm (d + 3))) (S := []) [.int l2] ok_X11_isSwitch ml_X11_193 pn_X11_isSwitch (ru_Rm (by decide)) (Nat.le_of_ble_eq_true rfl) d_X11_covers_8 (s_X11_isSwitch (μ := μ)   ?_)
    show G X (Rm (d + 4)) mX11_covers 11 [(0, .ref r0), (1, .int (nI i1)), (2, .int l2)] [.int (e_X11_isSwitch μ l2)] μ 0 0 K
    refine G_if_ne (tgt := 16) d_X11_covers_11 rfl (fun c1 => ?_) (fun c1 => ?_)
    ·
      refine G_aload_n d_X11_covers_16 rfl 0 rfl ?_
      refine G_getR (r := r0 + 121) 11 5 (w11_kd hw11_r0) (w11_f5 hw11_r0) cok11 (by decide) rfl fl_X11_36 d_X11_covers_17 ?_
      refine G_iload_n d_X11_covers_20 rfl 1 rfl ?_
      refine G_zald i1 (w11_k5 hw11_r0) rfl (hb c0 c1) d_X11_covers_21 ?_
      refine G_if_ne (tgt := 28) d_X11_covers_22 rfl (fun c2 => ?_) (fun c2 => ?_)
      ·
        refine G_iload_n d_X11_covers_28 rfl 2 rfl ?_
        refine G_if_ne (tgt := 55) d_X11_covers_29 rfl (fun c3 => ?_) (fun c3 => ?_)
        ·
          refine G_aload_n d_X11_covers_55 rfl 0 rfl ?_
          refine G_getR (r := r0 + 201) 11 13 (w11_kd hw11_r0) (w11_f13 hw11_r0) cok11 (by decide) rfl fl_X11_82 d_X11_covers_56 ?_
          refine G_aload_n d_X11_covers_59 rfl 0 rfl ?_
          refine G_getR (r := r0 + 120) 11 4 (w11_kd hw11_r0) (w11_f4 hw11_r0) cok11 (by decide) rfl fl_X11_32 d_X11_covers_60 ?_
          refine G_iload_n d_X11_covers_63 rfl 1 rfl ?_
          refine G_aaldS (r := r0 + 204 + 24 * i1) i1 (w11_k4 hw11_r0) rfl (hb_2 c0 c1 c2 c3) (w11_r4 hw11_r0 i1 (hb_2 c0 c1 c2 c3)) d_X11_covers_64 ?_
          refine G_aload_n d_X11_covers_65 rfl 0 rfl ?_
          refine G_getR (r := p0) 11 2 (w11_kd hw11_r0) hr_p0 cok11 (by decide) rfl fl_X11_26 d_X11_covers_66 ?_
          refine G_getR (r := p0 + 1) 10 0 (w10_kd hw10_p0) (w10_f0 hw10_p0) cok10 (by decide) rfl fl_X11_114 d_X11_covers_69 ?_
          refine G_sub (L' := []) [] rfl ?_
          refine G_callV (M' := mX0_holds) (R' := (Rm (d + 3))) (S := []) [.ref (r0 + 204 + 24 * i1), .ref (p0 + 1)] 0 (w0_kd hw0_r0201) cok0 rfl ok_X0_holds ml_X11_235 pn_X0_holds (ru_Rm (by decide)) (Nat.le_of_ble_eq_true rfl) d_X11_covers_72 ?_
          exact (hc_holds c0 c1 c2 c3)
        ·
          refine G_aload_n d_X11_covers_32 rfl 0 rfl ?_
          refine G_getR (r := r0 + 201) 11 13 (w11_kd hw11_r0) (w11_f13 hw11_r0) cok11 (by decide) rfl fl_X11_82 d_X11_covers_33 ?_
          refine G_aload_n d_X11_covers_36 rfl 0 rfl ?_
          refine G_getR (r := p0) 11 2 (w11_kd hw11_r0) hr_p0 cok11 (by decide) rfl fl_X11_26 d_X11_covers_37 ?_
          refine G_getR (r := p0 + 1) 10 0 (w10_kd hw10_p0) (w10_f0 hw10_p0) cok10 (by decide) rfl fl_X11_114 d_X11_covers_40 ?_
          refine G_aload_n d_X11_covers_43 rfl 0 rfl ?_
          refine G_getR (r := r0 + 120) 11 4 (w11_kd hw11_r0) (w11_f4 hw11_r0) cok11 (by decide) rfl fl_X11_32 d_X11_covers_44 ?_
          refine G_iload_n d_X11_covers_47 rfl 1 rfl ?_
          refine G_aaldS (r := r0 + 204 + 24 * i1) i1 (w11_k4 hw11_r0) rfl (hb_3 c0 c1 c2 c3) (w11_r4 hw11_r0 i1 (hb_3 c0 c1 c2 c3)) d_X11_covers_48 ?_
          refine G_sub (L' := []) [] rfl ?_
          refine G_callV (M' := mX0_holds) (R' := (Rm (d + 3))) (S := []) [.ref (p0 + 1), .ref (r0 + 204 + 24 * i1)] 0 (w0_kd hw0_r0201) cok0 rfl ok_X0_holds ml_X11_235 pn_X0_holds (ru_Rm (by decide)) (Nat.le_of_ble_eq_true rfl) d_X11_covers_49 ?_
          exact (hc_holds_2 c0 c1 c2 c3)
      ·
        refine G_bipush d_X11_covers_25 bp_m2 ?_
        exact G_iret rfl rfl rfl d_X11_covers_27 (hK_2 c0 c1 c2)
    ·
      refine G_iconst d_X11_covers_14 ic_m1 ?_
      exact G_iret rfl rfl rfl d_X11_covers_15 (hK_3 c0 c1)
theorem b_X11_covers_52 {X : cX} {d : Nat} {μ : mM} {K : Option Value → mM → Prop} {v0 : Int32} (h : G X (Rm (d + 4)) mX11_covers 75 [] [.int v0] μ 0 0 K) : G X (Rm (d + 4)) mX11_covers 52 [] [.int v0] μ 0 0 K := by
  refine G_goto (tgt := 75) d_X11_covers_52 rfl ?_
  exact h
theorem b_X11_covers_75 {X : cX} {d : Nat} {μ : mM} {K : Option Value → mM → Prop} {v0 : Int32} (hK : v0 = 0 → K (some (.int 0)) μ) (hK_2 : ¬ v0 = 0 → K (some (.int 1)) μ) : G X (Rm (d + 4)) mX11_covers 75 [] [.int v0] μ 0 0 K := by
  refine G_istore_n (L' := [(3, .int v0)]) d_X11_covers_75 rfl (by decide) rfl ?_
  refine G_iload_n d_X11_covers_76 rfl 0 rfl ?_
  refine G_if_eq (tgt := 84) d_X11_covers_77 rfl (fun c0 => ?_) (fun c0 => ?_)
  ·
    refine G_iconst d_X11_covers_84 ic_0 ?_
    exact G_iret rfl rfl rfl d_X11_covers_85 (hK c0)
  ·
    refine G_iconst d_X11_covers_80 ic_1 ?_
    refine G_goto (tgt := 85) d_X11_covers_81 rfl ?_
    exact G_iret rfl rfl rfl d_X11_covers_85 (hK_2 c0)
theorem d_X11_isSheet_0 : decode cX11_isSheet 0 = .ok (.iload_n 0, 1) := by decide +kernel
theorem d_X11_isSheet_1 : decode cX11_isSheet 1 = .ok (.ifCond .lt 12, 3) := by decide +kernel
theorem d_X11_isSheet_4 : decode cX11_isSheet 4 = .ok (.iload_n 0, 1) := by decide +kernel
theorem d_X11_isSheet_5 : decode cX11_isSheet 5 = .ok (.iconst 4, 1) := by decide +kernel
theorem d_X11_isSheet_6 : decode cX11_isSheet 6 = .ok (.if_icmp .ge 7, 3) := by decide +kernel
theorem d_X11_isSheet_9 : decode cX11_isSheet 9 = .ok (.iconst 1, 1) := by decide +kernel
theorem d_X11_isSheet_10 : decode cX11_isSheet 10 = .ok (.goto 4, 3) := by decide +kernel
theorem d_X11_isSheet_13 : decode cX11_isSheet 13 = .ok (.iconst 0, 1) := by decide +kernel
theorem d_X11_isSheet_14 : decode cX11_isSheet 14 = .ok (.ireturn, 1) := by decide +kernel
theorem b_X11_isSheet_0 {X : cX} {d : Nat} {μ : mM} {K : Option Value → mM → Prop} {l0 : Int32} (hK : l0 < 0 → K (some (.int 0)) μ) (hK_2 : ¬ l0 < 0 → (4 : Int32) ≤ l0 → K (some (.int 0)) μ) (hK_3 : ¬ l0 < 0 → ¬ (4 : Int32) ≤ l0 → K (some (.int 1)) μ) : G X (Rm d) mX11_isSheet 0 [(0, .int l0)] [] μ 0 0 K := by
  refine G_iload_n d_X11_isSheet_0 rfl 0 rfl ?_
  refine G_if_lt (tgt := 13) d_X11_isSheet_1 rfl (fun c0 => ?_) (fun c0 => ?_)
  ·
    refine G_iconst d_X11_isSheet_13 ic_0 ?_
    exact G_zret rfl rfl rfl rfl d_X11_isSheet_14 (hK c0)
  ·
    refine G_iload_n d_X11_isSheet_4 rfl 0 rfl ?_
    refine G_iconst d_X11_isSheet_5 ic_4 ?_
    refine G_icmp_ge (tgt := 13) d_X11_isSheet_6 rfl (fun c1 => ?_) (fun c1 => ?_)
    ·
      refine G_iconst d_X11_isSheet_13 ic_0 ?_
      exact G_zret rfl rfl rfl rfl d_X11_isSheet_14 (hK_2 c0 c1)
    ·
      refine G_iconst d_X11_isSheet_9 ic_1 ?_
      refine G_goto (tgt := 14) d_X11_isSheet_10 rfl ?_
      exact G_zret rfl rfl rfl rfl d_X11_isSheet_14 (hK_3 c0 c1)
def e_X11_isSheet (μ : mM) (l0 : Int32) : Int32 := (if l0 < 0 then 0 else (if (4 : Int32) ≤ l0 then 0 else 1))
theorem s_X11_isSheet {X : cX} {d : Nat} {μ : mM} {K : Option Value → mM → Prop} {l0 : Int32}  (hK : K (some (.int (e_X11_isSheet μ l0))) μ) : Ct X (Rm d) mX11_isSheet [.int l0] μ K := Ct_of rfl (Nat.le_of_ble_eq_true rfl) (G_sub [0] rfl (b_X11_isSheet_0 (fun c0 => by unfold e_X11_isSheet at hK; rw [if_pos c0] at hK; exact hK) (fun c0 c1 => by unfold e_X11_isSheet at hK; rw [if_neg c0, if_pos c1] at hK; exact hK) (fun c0 c1 => by unfold e_X11_isSheet at hK; rw [if_neg c0, if_neg c1] at hK; exact hK)))
theorem d_X11_isLane_0 : decode cX11_isLane 0 = .ok (.iload_n 0, 1) := by decide +kernel
theorem d_X11_isLane_1 : decode cX11_isLane 1 = .ok (.ifCond .lt 12, 3) := by decide +kernel
theorem d_X11_isLane_4 : decode cX11_isLane 4 = .ok (.iload_n 0, 1) := by decide +kernel
theorem d_X11_isLane_5 : decode cX11_isLane 5 = .ok (.iconst 3, 1) := by decide +kernel
theorem d_X11_isLane_6 : decode cX11_isLane 6 = .ok (.if_icmp .ge 7, 3) := by decide +kernel
theorem d_X11_isLane_9 : decode cX11_isLane 9 = .ok (.iconst 1, 1) := by decide +kernel
theorem d_X11_isLane_10 : decode cX11_isLane 10 = .ok (.goto 4, 3) := by decide +kernel
theorem d_X11_isLane_13 : decode cX11_isLane 13 = .ok (.iconst 0, 1) := by decide +kernel
theorem d_X11_isLane_14 : decode cX11_isLane 14 = .ok (.ireturn, 1) := by decide +kernel
theorem b_X11_isLane_0 {X : cX} {d : Nat} {μ : mM} {K : Option Value → mM → Prop} {l0 : Int32} (hK : l0 < 0 → K (some (.int 0)) μ) (hK_2 : ¬ l0 < 0 → (3 : Int32) ≤ l0 → K (some (.int 0)) μ) (hK_3 : ¬ l0 < 0 → ¬ (3 : Int32) ≤ l0 → K (some (.int 1)) μ) : G X (Rm d) mX11_isLane 0 [(0, .int l0)] [] μ 0 0 K := by
  refine G_iload_n d_X11_isLane_0 rfl 0 rfl ?_
  refine G_if_lt (tgt := 13) d_X11_isLane_1 rfl (fun c0 => ?_) (fun c0 => ?_)
  ·
    refine G_iconst d_X11_isLane_13 ic_0 ?_
    exact G_zret rfl rfl rfl rfl d_X11_isLane_14 (hK c0)
  ·
    refine G_iload_n d_X11_isLane_4 rfl 0 rfl ?_
    refine G_iconst d_X11_isLane_5 ic_3 ?_
    refine G_icmp_ge (tgt := 13) d_X11_isLane_6 rfl (fun c1 => ?_) (fun c1 => ?_)
    ·
      refine G_iconst d_X11_isLane_13 ic_0 ?_
      exact G_zret rfl rfl rfl rfl d_X11_isLane_14 (hK_2 c0 c1)
    ·
      refine G_iconst d_X11_isLane_9 ic_1 ?_
      refine G_goto (tgt := 14) d_X11_isLane_10 rfl ?_
      exact G_zret rfl rfl rfl rfl d_X11_isLane_14 (hK_3 c0 c1)
def e_X11_isLane (μ : mM) (l0 : Int32) : Int32 := (if l0 < 0 then 0 else (if (3 : Int32) ≤ l0 then 0 else 1))
theorem s_X11_isLane {X : cX} {d : Nat} {μ : mM} {K : Option Value → mM → Prop} {l0 : Int32}  (hK : K (some (.int (e_X11_isLane μ l0))) μ) : Ct X (Rm d) mX11_isLane [.int l0] μ K := Ct_of rfl (Nat.le_of_ble_eq_true rfl) (G_sub [0] rfl (b_X11_isLane_0 (fun c0 => by unfold e_X11_isLane at hK; rw [if_pos c0] at hK; exact hK) (fun c0 c1 => by unfold e_X11_isLane at hK; rw [if_neg c0, if_pos c1] at hK; exact hK) (fun c0 c1 => by unfold e_X11_isLane at hK; rw [if_neg c0, if_neg c1] at hK; exact hK)))
theorem d_X11_sheet_0 : decode cX11_sheet 0 = .ok (.iload_n 1, 1) := by decide +kernel
theorem d_X11_sheet_1 : decode cX11_sheet 1 = .ok (.invokestatic 239, 3) := by decide +kernel
theorem d_X11_sheet_4 : decode cX11_sheet 4 = .ok (.ifCond .eq 16, 3) := by decide +kernel
theorem d_X11_sheet_7 : decode cX11_sheet 7 = .ok (.iload_n 2, 1) := by decide +kernel
theorem d_X11_sheet_8 : decode cX11_sheet 8 = .ok (.invokestatic 242, 3) := by decide +kernel
theorem d_X11_sheet_11 : decode cX11_sheet 11 = .ok (.ifCond .eq 9, 3) := by decide +kernel
theorem d_X11_sheet_14 : decode cX11_sheet 14 = .ok (.iload_n 3, 1) := by decide +kernel
theorem d_X11_sheet_15 : decode cX11_sheet 15 = .ok (.bipush 40, 2) := by decide +kernel
theorem d_X11_sheet_17 : decode cX11_sheet 17 = .ok (.if_icmp .le 5, 3) := by decide +kernel
theorem d_X11_sheet_20 : decode cX11_sheet 20 = .ok (.iconst (-1), 1) := by decide +kernel
theorem d_X11_sheet_21 : decode cX11_sheet 21 = .ok (.ireturn, 1) := by decide +kernel
theorem d_X11_sheet_22 : decode cX11_sheet 22 = .ok (.iload_n 3, 1) := by decide +kernel
theorem d_X11_sheet_23 : decode cX11_sheet 23 = .ok (.ifCond .ge 6, 3) := by decide +kernel
theorem d_X11_sheet_26 : decode cX11_sheet 26 = .ok (.bipush (-14), 2) := by decide +kernel
theorem d_X11_sheet_28 : decode cX11_sheet 28 = .ok (.ireturn, 1) := by decide +kernel
theorem d_X11_sheet_29 : decode cX11_sheet 29 = .ok (.aload_n 0, 1) := by decide +kernel
theorem d_X11_sheet_30 : decode cX11_sheet 30 = .ok (.getfield 42, 3) := by decide +kernel
theorem d_X11_sheet_33 : decode cX11_sheet 33 = .ok (.iload_n 1, 1) := by decide +kernel
theorem d_X11_sheet_34 : decode cX11_sheet 34 = .ok (.aaload, 1) := by decide +kernel
theorem d_X11_sheet_35 : decode cX11_sheet 35 = .ok (.iload_n 2, 1) := by decide +kernel
theorem d_X11_sheet_36 : decode cX11_sheet 36 = .ok (.iload_n 3, 1) := by decide +kernel
theorem d_X11_sheet_37 : decode cX11_sheet 37 = .ok (.invokevirtual 245, 3) := by decide +kernel
theorem d_X11_sheet_40 : decode cX11_sheet 40 = .ok (.iconst 1, 1) := by decide +kernel
theorem d_X11_sheet_41 : decode cX11_sheet 41 = .ok (.ireturn, 1) := by decide +kernel
theorem b_X11_sheet_0 {X : cX} {d : Nat} {μ : mM} {K : Option Value → mM → Prop} {r0 : Nat} {i1 : Nat} {l2 : Int32} {l3 : Int32} (hK : (e_X11_isSheet μ (nI i1)) = 0 → K (some (.int (-1))) μ) (hK_2 : ¬ (e_X11_isSheet μ (nI i1)) = 0 → (e_X11_isLane μ l2) = 0 → K (some (.int (-1))) μ) (hw11_r0 : WF11 μ r0) (hb : ¬ (e_X11_isSheet μ (nI i1)) = 0 → ¬ (e_X11_isLane μ l2) = 0 → l3 ≤ (40 : Int32) → 0 ≤ l3 → i1 < 4) (hw7_r02522i1 : WF7 μ (r0 + 252 + 2 * i1)) (hc_renew : ¬ (e_X11_isSheet μ (nI i1)) = 0 → ¬ (e_X11_isLane μ l2) = 0 → l3 ≤ (40 : Int32) → 0 ≤ l3 → Ct X (Rm (d + 1)) mX7_renew [.ref (r0 + 252 + 2 * i1), .int l2, .int l3] μ (fun r μ2 => G X (Rm (d + 2)) mX11_sheet 40 [] (r.toList ++ []) μ2 0 0 K)) (hK_3 : ¬ (e_X11_isSheet μ (nI i1)) = 0 → ¬ (e_X11_isLane μ l2) = 0 → l3 ≤ (40 : Int32) → ¬ 0 ≤ l3 → K (some (.int (-14))) μ) (hK_4 : ¬ (e_X11_isSheet μ (nI i1)) = 0 → ¬ (e_X11_isLane μ l2) = 0 → ¬ l3 ≤ (40 : Int32) → K (some (.int (-1))) μ) : G X (Rm (d + 2)) mX11_sheet 0 [(0, .ref r0), (1, .int (nI i1)), (2, .int l2), (3, .int l3)] [] μ 0 0 K := by
  refine G_iload_n d_X11_sheet_0 rfl 1 rfl ?_
  refine G_callS (M' := mX11_isSheet) (R' := (Rm (d + 1))) (S := []) [.int (nI i1)] ok_X11_isSheet ml_X11_239 pn_X11_isSheet (ru_Rm (by decide)) (Nat.le_of_ble_eq_true rfl) d_X11_sheet_1 (s_X11_isSheet (μ := μ)   ?_)
  show G X (Rm (d + 2)) mX11_sheet 4 [(0, .ref r0), (1, .int (nI i1)), (2, .int l2), (3, .int l3)] [.int (e_X11_isSheet μ (nI i1))] μ 0 0 K
  refine G_if_eq (tgt := 20) d_X11_sheet_4 rfl (fun c0 => ?_) (fun c0 => ?_)
  ·
    refine G_iconst d_X11_sheet_20 ic_m1 ?_
    exact G_iret rfl rfl rfl d_X11_sheet_21 (hK c0)
  ·
    refine G_iload_n d_X11_sheet_7 rfl 2 rfl ?_
    refine G_callS (M' := mX11_isLane) (R' := (Rm (d + 1))) (S := []) [.int l2] ok_X11_isLane ml_X11_242 pn_X11_isLane (ru_Rm (by decide)) (Nat.le_of_ble_eq_true rfl) d_X11_sheet_8 (s_X11_isLane (μ := μ)   ?_)
    show G X (Rm (d + 2)) mX11_sheet 11 [(0, .ref r0), (1, .int (nI i1)), (2, .int l2), (3, .int l3)] [.int (e_X11_isLane μ l2)] μ 0 0 K
    refine G_if_eq (tgt := 20) d_X11_sheet_11 rfl (fun c1 => ?_) (fun c1 => ?_)
    ·
      refine G_iconst d_X11_sheet_20 ic_m1 ?_
      exact G_iret rfl rfl rfl d_X11_sheet_21 (hK_2 c0 c1)
    ·
      refine G_iload_n d_X11_sheet_14 rfl 3 rfl ?_
      refine G_bipush d_X11_sheet_15 bp_40 ?_
      refine G_icmp_le (tgt := 22) d_X11_sheet_17 rfl (fun c2 => ?_) (fun c2 => ?_)
      ·
        refine G_iload_n d_X11_sheet_22 rfl 3 rfl ?_
        refine G_if_ge (tgt := 29) d_X11_sheet_23 rfl (fun c3 => ?_) (fun c3 => ?_)
        ·
          refine G_aload_n d_X11_sheet_29 rfl 0 rfl ?_
          refine G_getR (r := r0 + 122) 11 6 (w11_kd hw11_r0) (w11_f6 hw11_r0) cok11 (by decide) rfl fl_X11_42 d_X11_sheet_30 ?_
          refine G_iload_n d_X11_sheet_33 rfl 1 rfl ?_
          refine G_aaldT (r := r0 + 252 + 2 * i1) i1 (w11_k6 hw11_r0) rfl (hb c0 c1 c2 c3) (w11_r6 hw11_r0 i1 (hb c0 c1 c2 c3)) d_X11_sheet_34 ?_
          refine G_iload_n d_X11_sheet_35 rfl 2 rfl ?_
          refine G_iload_n d_X11_sheet_36 rfl 3 rfl ?_
          refine G_sub (L' := []) [] rfl ?_
          refine G_callV (M' := mX7_renew) (R' := (Rm (d + 1))) (S := []) [.int l2, .int l3] 7 (w7_kd hw7_r02522i1) cok7 rfl ok_X7_renew ml_X11_245 pn_X7_renew (ru_Rm (by decide)) (Nat.le_of_ble_eq_true rfl) d_X11_sheet_37 ?_
          exact (hc_renew c0 c1 c2 c3)
        ·
          refine G_bipush d_X11_sheet_26 bp_m14 ?_
          exact G_iret rfl rfl rfl d_X11_sheet_28 (hK_3 c0 c1 c2 c3)
      ·
        refine G_iconst d_X11_sheet_20 ic_m1 ?_
        exact G_iret rfl rfl rfl d_X11_sheet_21 (hK_4 c0 c1 c2)
theorem b_X11_sheet_40 {X : cX} {d : Nat} {μ : mM} {K : Option Value → mM → Prop}  (hK : K (some (.int 1)) μ) : G X (Rm (d + 2)) mX11_sheet 40 [] [] μ 0 0 K := by
  refine G_iconst d_X11_sheet_40 ic_1 ?_
  exact G_iret rfl rfl rfl d_X11_sheet_41 hK
theorem d_X11_lay_0 : decode cX11_lay 0 = .ok (.iload_n 1, 1) := by decide +kernel
theorem d_X11_lay_1 : decode cX11_lay 1 = .ok (.invokestatic 239, 3) := by decide +kernel
theorem d_X11_lay_4 : decode cX11_lay 4 = .ok (.ifCond .ne 5, 3) := by decide +kernel
theorem d_X11_lay_7 : decode cX11_lay 7 = .ok (.iconst (-1), 1) := by decide +kernel
theorem d_X11_lay_8 : decode cX11_lay 8 = .ok (.ireturn, 1) := by decide +kernel
theorem d_X11_lay_9 : decode cX11_lay 9 = .ok (.aload_n 0, 1) := by decide +kernel
theorem d_X11_lay_10 : decode cX11_lay 10 = .ok (.getfield 42, 3) := by decide +kernel
theorem d_X11_lay_13 : decode cX11_lay 13 = .ok (.iload_n 1, 1) := by decide +kernel
theorem d_X11_lay_14 : decode cX11_lay 14 = .ok (.aaload, 1) := by decide +kernel
theorem d_X11_lay_15 : decode cX11_lay 15 = .ok (.aload_n 0, 1) := by decide +kernel
theorem d_X11_lay_16 : decode cX11_lay 16 = .ok (.getfield 42, 3) := by decide +kernel
theorem d_X11_lay_19 : decode cX11_lay 19 = .ok (.iload_n 1, 1) := by decide +kernel
theorem d_X11_lay_20 : decode cX11_lay 20 = .ok (.aaload, 1) := by decide +kernel
theorem d_X11_lay_21 : decode cX11_lay 21 = .ok (.getfield 249, 3) := by decide +kernel
theorem d_X11_lay_24 : decode cX11_lay 24 = .ok (.iload_n 2, 1) := by decide +kernel
theorem d_X11_lay_25 : decode cX11_lay 25 = .ok (.iconst 1, 1) := by decide +kernel
theorem d_X11_lay_26 : decode cX11_lay 26 = .ok (.invokevirtual 252, 3) := by decide +kernel
theorem d_X11_lay_29 : decode cX11_lay 29 = .ok (.istore 4, 2) := by decide +kernel
theorem d_X11_lay_31 : decode cX11_lay 31 = .ok (.iload 4, 2) := by decide +kernel
theorem d_X11_lay_33 : decode cX11_lay 33 = .ok (.ifCond .eq 9, 3) := by decide +kernel
theorem d_X11_lay_36 : decode cX11_lay 36 = .ok (.bipush (-10), 2) := by decide +kernel
theorem d_X11_lay_38 : decode cX11_lay 38 = .ok (.iload 4, 2) := by decide +kernel
theorem d_X11_lay_40 : decode cX11_lay 40 = .ok (.isub, 1) := by decide +kernel
theorem d_X11_lay_41 : decode cX11_lay 41 = .ok (.ireturn, 1) := by decide +kernel
theorem d_X11_lay_42 : decode cX11_lay 42 = .ok (.aload_n 0, 1) := by decide +kernel
theorem d_X11_lay_43 : decode cX11_lay 43 = .ok (.getfield 42, 3) := by decide +kernel
theorem d_X11_lay_46 : decode cX11_lay 46 = .ok (.iload_n 1, 1) := by decide +kernel
theorem d_X11_lay_47 : decode cX11_lay 47 = .ok (.aaload, 1) := by decide +kernel
theorem d_X11_lay_48 : decode cX11_lay 48 = .ok (.iload_n 2, 1) := by decide +kernel
theorem d_X11_lay_49 : decode cX11_lay 49 = .ok (.iload_n 3, 1) := by decide +kernel
theorem d_X11_lay_50 : decode cX11_lay 50 = .ok (.invokevirtual 256, 3) := by decide +kernel
theorem d_X11_lay_53 : decode cX11_lay 53 = .ok (.iconst 1, 1) := by decide +kernel
theorem d_X11_lay_54 : decode cX11_lay 54 = .ok (.ireturn, 1) := by decide +kernel
theorem b_X11_lay_0 {X : cX} {d : Nat} {μ : mM} {K : Option Value → mM → Prop} {r0 : Nat} {i1 : Nat} {l2 : Int32} {l3 : Int32} (hw11_r0 : WF11 μ r0) (hb : ¬ (e_X11_isSheet μ (nI i1)) = 0 → i1 < 4) (hw7_r02522i1 : WF7 μ (r0 + 252 + 2 * i1)) (hb_2 : ¬ (e_X11_isSheet μ (nI i1)) = 0 → (e_X7_findTaken μ (r0 + 252 + 2 * i1) (iv μ (r0 + 252 + 2 * i1) 1) l2 1) = 0 → i1 < 4) (hc_put : ¬ (e_X11_isSheet μ (nI i1)) = 0 → (e_X7_findTaken μ (r0 + 252 + 2 * i1) (iv μ (r0 + 252 + 2 * i1) 1) l2 1) = 0 → Ct X (Rm (d + 1)) mX7_put [.ref (r0 + 252 + 2 * i1), .int l2, .int l3] μ (fun r μ2 => G X (Rm (d + 2)) mX11_lay 53 [] (r.toList ++ []) μ2 0 0 K)) (hK : ¬ (e_X11_isSheet μ (nI i1)) = 0 → ¬ (e_X7_findTaken μ (r0 + 252 + 2 * i1) (iv μ (r0 + 252 + 2 * i1) 1) l2 1) = 0 → K (some (.int (((-10) : Int32) - (e_X7_findTaken μ (r0 + 252 + 2 * i1) (iv μ (r0 + 252 + 2 * i1) 1) l2 1)))) μ) (hK_2 : (e_X11_isSheet μ (nI i1)) = 0 → K (some (.int (-1))) μ) : G X (Rm (d + 2)) mX11_lay 0 [(0, .ref r0), (1, .int (nI i1)), (2, .int l2), (3, .int l3)] [] μ 0 0 K := by
  refine G_iload_n d_X11_lay_0 rfl 1 rfl ?_
  refine G_callS (M' := mX11_isSheet) (R' := (Rm (d + 1))) (S := []) [.int (nI i1)] ok_X11_isSheet ml_X11_239 pn_X11_isSheet (ru_Rm (by decide)) (Nat.le_of_ble_eq_true rfl) d_X11_lay_1 (s_X11_isSheet (μ := μ)   ?_)
  show G X (Rm (d + 2)) mX11_lay 4 [(0, .ref r0), (1, .int (nI i1)), (2, .int l2), (3, .int l3)] [.int (e_X11_isSheet μ (nI i1))] μ 0 0 K
  refine G_if_ne (tgt := 9) d_X11_lay_4 rfl (fun c0 => ?_) (fun c0 => ?_)
  ·
    refine G_aload_n d_X11_lay_9 rfl 0 rfl ?_
    refine G_getR (r := r0 + 122) 11 6 (w11_kd hw11_r0) (w11_f6 hw11_r0) cok11 (by decide) rfl fl_X11_42 d_X11_lay_10 ?_
    refine G_iload_n d_X11_lay_13 rfl 1 rfl ?_
    refine G_aaldT (r := r0 + 252 + 2 * i1) i1 (w11_k6 hw11_r0) rfl (hb c0) (w11_r6 hw11_r0 i1 (hb c0)) d_X11_lay_14 ?_
    refine G_aload_n d_X11_lay_15 rfl 0 rfl ?_
    refine G_getR (r := r0 + 122) 11 6 (w11_kd hw11_r0) (w11_f6 hw11_r0) cok11 (by decide) rfl fl_X11_42 d_X11_lay_16 ?_
    refine G_iload_n d_X11_lay_19 rfl 1 rfl ?_
    refine G_aaldT (r := r0 + 252 + 2 * i1) i1 (w11_k6 hw11_r0) rfl (hb c0) (w11_r6 hw11_r0 i1 (hb c0)) d_X11_lay_20 ?_
    refine G_getI 7 1 (w7_kd hw7_r02522i1) cok7 (by decide) rfl fl_X11_249 d_X11_lay_21 ?_
    refine G_iload_n d_X11_lay_24 rfl 2 rfl ?_
    refine G_iconst d_X11_lay_25 ic_1 ?_
    refine G_callV (M' := mX7_findTaken) (R' := (Rm (d + 1))) (S := []) [.int (iv μ (r0 + 252 + 2 * i1) 1), .int l2, .int 1] 7 (w7_kd hw7_r02522i1) cok7 rfl ok_X7_findTaken ml_X11_252 pn_X7_findTaken (ru_Rm (by decide)) (Nat.le_of_ble_eq_true rfl) d_X11_lay_26 (s_X7_findTaken (μ := μ)  hw7_r02522i1 ?_)
    show G X (Rm (d + 2)) mX11_lay 29 [(0, .ref r0), (1, .int (nI i1)), (2, .int l2), (3, .int l3)] [.int (e_X7_findTaken μ (r0 + 252 + 2 * i1) (iv μ (r0 + 252 + 2 * i1) 1) l2 1)] μ 0 0 K
    refine G_istore (L' := [(4, .int (e_X7_findTaken μ (r0 + 252 + 2 * i1) (iv μ (r0 + 252 + 2 * i1) 1) l2 1)), (0, .ref r0), (1, .int (nI i1)), (2, .int l2), (3, .int l3)]) d_X11_lay_29 (by decide) rfl ?_
    refine G_iload d_X11_lay_31 0 rfl ?_
    refine G_if_eq (tgt := 42) d_X11_lay_33 rfl (fun c1 => ?_) (fun c1 => ?_)
    ·
      refine G_aload_n d_X11_lay_42 rfl 1 rfl ?_
      refine G_getR (r := r0 + 122) 11 6 (w11_kd hw11_r0) (w11_f6 hw11_r0) cok11 (by decide) rfl fl_X11_42 d_X11_lay_43 ?_
      refine G_iload_n d_X11_lay_46 rfl 2 rfl ?_
      refine G_aaldT (r := r0 + 252 + 2 * i1) i1 (w11_k6 hw11_r0) rfl (hb_2 c0 c1) (w11_r6 hw11_r0 i1 (hb_2 c0 c1)) d_X11_lay_47 ?_
      refine G_iload_n d_X11_lay_48 rfl 3 rfl ?_
      refine G_iload_n d_X11_lay_49 rfl 4 rfl ?_
      refine G_sub (L' := []) [] rfl ?_
      refine G_callV (M' := mX7_put) (R' := (Rm (d + 1))) (S := []) [.int l2, .int l3] 7 (w7_kd hw7_r02522i1) cok7 rfl ok_X7_put ml_X11_256 pn_X7_put (ru_Rm (by decide)) (Nat.le_of_ble_eq_true rfl) d_X11_lay_50 ?_
      exact (hc_put c0 c1)
    ·
      refine G_bipush d_X11_lay_36 bp_m10 ?_
      refine G_iload d_X11_lay_38 0 rfl ?_
      refine G_isub d_X11_lay_40 ?_
      exact G_iret rfl rfl rfl d_X11_lay_41 (hK c0 c1)
  ·
    refine G_iconst d_X11_lay_7 ic_m1 ?_
    exact G_iret rfl rfl rfl d_X11_lay_8 (hK_2 c0)
theorem b_X11_lay_53 {X : cX} {d : Nat} {μ : mM} {K : Option Value → mM → Prop}  (hK : K (some (.int 1)) μ) : G X (Rm (d + 2)) mX11_lay 53 [] [] μ 0 0 K := by
  refine G_iconst d_X11_lay_53 ic_1 ?_
  exact G_iret rfl rfl rfl d_X11_lay_54 hK
theorem d_X11_read_0 : decode cX11_read 0 = .ok (.iload_n 1, 1) := by decide +kernel
theorem d_X11_read_1 : decode cX11_read 1 = .ok (.invokestatic 239, 3) := by decide +kernel
theorem d_X11_read_4 : decode cX11_read 4 = .ok (.ifCond .eq 22, 3) := by decide +kernel
theorem d_X11_read_7 : decode cX11_read 7 = .ok (.iload_n 2, 1) := by decide +kernel
theorem d_X11_read_8 : decode cX11_read 8 = .ok (.invokestatic 242, 3) := by decide +kernel
theorem d_X11_read_11 : decode cX11_read 11 = .ok (.ifCond .eq 15, 3) := by decide +kernel
theorem d_X11_read_14 : decode cX11_read 14 = .ok (.iload 4, 2) := by decide +kernel
theorem d_X11_read_16 : decode cX11_read 16 = .ok (.ifCond .lt 10, 3) := by decide +kernel
theorem d_X11_read_19 : decode cX11_read 19 = .ok (.iload 4, 2) := by decide +kernel
theorem d_X11_read_21 : decode cX11_read 21 = .ok (.bipush 13, 2) := by decide +kernel
theorem d_X11_read_23 : decode cX11_read 23 = .ok (.if_icmp .le 5, 3) := by decide +kernel
theorem d_X11_read_26 : decode cX11_read 26 = .ok (.iconst (-1), 1) := by decide +kernel
theorem d_X11_read_27 : decode cX11_read 27 = .ok (.ireturn, 1) := by decide +kernel
theorem d_X11_read_28 : decode cX11_read 28 = .ok (.aload_n 0, 1) := by decide +kernel
theorem d_X11_read_29 : decode cX11_read 29 = .ok (.getfield 42, 3) := by decide +kernel
theorem d_X11_read_32 : decode cX11_read 32 = .ok (.iload_n 1, 1) := by decide +kernel
theorem d_X11_read_33 : decode cX11_read 33 = .ok (.aaload, 1) := by decide +kernel
theorem d_X11_read_34 : decode cX11_read 34 = .ok (.astore 5, 2) := by decide +kernel
theorem d_X11_read_36 : decode cX11_read 36 = .ok (.aload_n 0, 1) := by decide +kernel
theorem d_X11_read_37 : decode cX11_read 37 = .ok (.getfield 47, 3) := by decide +kernel
theorem d_X11_read_40 : decode cX11_read 40 = .ok (.aload_n 0, 1) := by decide +kernel
theorem d_X11_read_41 : decode cX11_read 41 = .ok (.getfield 26, 3) := by decide +kernel
theorem d_X11_read_44 : decode cX11_read 44 = .ok (.getfield 114, 3) := by decide +kernel
theorem d_X11_read_47 : decode cX11_read 47 = .ok (.invokevirtual 231, 3) := by decide +kernel
theorem d_X11_read_50 : decode cX11_read 50 = .ok (.iconst 0, 1) := by decide +kernel
theorem d_X11_read_51 : decode cX11_read 51 = .ok (.istore 6, 2) := by decide +kernel
theorem d_X11_read_53 : decode cX11_read 53 = .ok (.iconst 0, 1) := by decide +kernel
theorem d_X11_read_54 : decode cX11_read 54 = .ok (.istore 7, 2) := by decide +kernel
theorem d_X11_read_56 : decode cX11_read 56 = .ok (.iconst 0, 1) := by decide +kernel
theorem d_X11_read_57 : decode cX11_read 57 = .ok (.istore 8, 2) := by decide +kernel
theorem d_X11_read_59 : decode cX11_read 59 = .ok (.iload 8, 2) := by decide +kernel
theorem d_X11_read_61 : decode cX11_read 61 = .ok (.iload 4, 2) := by decide +kernel
theorem d_X11_read_63 : decode cX11_read 63 = .ok (.if_icmp .ge 110, 3) := by decide +kernel
theorem d_X11_read_66 : decode cX11_read 66 = .ok (.iload 7, 2) := by decide +kernel
theorem d_X11_read_68 : decode cX11_read 68 = .ok (.ifCond .ne 105, 3) := by decide +kernel
theorem d_X11_read_71 : decode cX11_read 71 = .ok (.iload_n 3, 1) := by decide +kernel
theorem d_X11_read_72 : decode cX11_read 72 = .ok (.iconst 3, 1) := by decide +kernel
theorem d_X11_read_73 : decode cX11_read 73 = .ok (.iload 8, 2) := by decide +kernel
theorem d_X11_read_75 : decode cX11_read 75 = .ok (.imul, 1) := by decide +kernel
theorem d_X11_read_76 : decode cX11_read 76 = .ok (.iadd, 1) := by decide +kernel
theorem d_X11_read_77 : decode cX11_read 77 = .ok (.istore 9, 2) := by decide +kernel
theorem d_X11_read_79 : decode cX11_read 79 = .ok (.aload 5, 2) := by decide +kernel
theorem d_X11_read_81 : decode cX11_read 81 = .ok (.iload_n 2, 1) := by decide +kernel
theorem d_X11_read_82 : decode cX11_read 82 = .ok (.iload 9, 2) := by decide +kernel
theorem d_X11_read_84 : decode cX11_read 84 = .ok (.iconst 3, 1) := by decide +kernel
theorem d_X11_read_85 : decode cX11_read 85 = .ok (.invokevirtual 252, 3) := by decide +kernel
theorem d_X11_read_88 : decode cX11_read 88 = .ok (.istore 7, 2) := by decide +kernel
theorem d_X11_read_90 : decode cX11_read 90 = .ok (.iload 7, 2) := by decide +kernel
theorem d_X11_read_92 : decode cX11_read 92 = .ok (.ifCond .ne 75, 3) := by decide +kernel
theorem d_X11_read_95 : decode cX11_read 95 = .ok (.aload_n 0, 1) := by decide +kernel
theorem d_X11_read_96 : decode cX11_read 96 = .ok (.getfield 54, 3) := by decide +kernel
theorem d_X11_read_99 : decode cX11_read 99 = .ok (.aload_n 0, 1) := by decide +kernel
theorem d_X11_read_100 : decode cX11_read 100 = .ok (.getfield 26, 3) := by decide +kernel
theorem d_X11_read_103 : decode cX11_read 103 = .ok (.getfield 114, 3) := by decide +kernel
theorem d_X11_read_106 : decode cX11_read 106 = .ok (.aload 5, 2) := by decide +kernel
theorem d_X11_read_108 : decode cX11_read 108 = .ok (.getfield 258, 3) := by decide +kernel
theorem d_X11_read_111 : decode cX11_read 111 = .ok (.iload 9, 2) := by decide +kernel
theorem d_X11_read_113 : decode cX11_read 113 = .ok (.iaload, 1) := by decide +kernel
theorem d_X11_read_114 : decode cX11_read 114 = .ok (.aload 5, 2) := by decide +kernel
theorem d_X11_read_116 : decode cX11_read 116 = .ok (.getfield 258, 3) := by decide +kernel
theorem d_X11_read_119 : decode cX11_read 119 = .ok (.iload 9, 2) := by decide +kernel
theorem d_X11_read_121 : decode cX11_read 121 = .ok (.iconst 1, 1) := by decide +kernel
theorem d_X11_read_122 : decode cX11_read 122 = .ok (.iadd, 1) := by decide +kernel
theorem d_X11_read_123 : decode cX11_read 123 = .ok (.iaload, 1) := by decide +kernel
theorem d_X11_read_124 : decode cX11_read 124 = .ok (.aload 5, 2) := by decide +kernel
theorem d_X11_read_126 : decode cX11_read 126 = .ok (.getfield 258, 3) := by decide +kernel
theorem d_X11_read_129 : decode cX11_read 129 = .ok (.iload 9, 2) := by decide +kernel
theorem d_X11_read_131 : decode cX11_read 131 = .ok (.iconst 2, 1) := by decide +kernel
theorem d_X11_read_132 : decode cX11_read 132 = .ok (.iadd, 1) := by decide +kernel
theorem d_X11_read_133 : decode cX11_read 133 = .ok (.iaload, 1) := by decide +kernel
theorem d_X11_read_134 : decode cX11_read 134 = .ok (.invokevirtual 210, 3) := by decide +kernel
theorem d_X11_read_137 : decode cX11_read 137 = .ok (.istore 10, 2) := by decide +kernel
theorem d_X11_read_139 : decode cX11_read 139 = .ok (.iload 10, 2) := by decide +kernel
theorem d_X11_read_141 : decode cX11_read 141 = .ok (.ifCond .ge 23, 3) := by decide +kernel
theorem d_X11_read_144 : decode cX11_read 144 = .ok (.aload_n 0, 1) := by decide +kernel
theorem d_X11_read_145 : decode cX11_read 145 = .ok (.getfield 26, 3) := by decide +kernel
theorem d_X11_read_148 : decode cX11_read 148 = .ok (.getfield 114, 3) := by decide +kernel
theorem d_X11_read_151 : decode cX11_read 151 = .ok (.aload_n 0, 1) := by decide +kernel
theorem d_X11_read_152 : decode cX11_read 152 = .ok (.getfield 47, 3) := by decide +kernel
theorem d_X11_read_155 : decode cX11_read 155 = .ok (.invokevirtual 231, 3) := by decide +kernel
theorem d_X11_read_158 : decode cX11_read 158 = .ok (.bipush (-20), 2) := by decide +kernel
theorem d_X11_read_160 : decode cX11_read 160 = .ok (.iload 8, 2) := by decide +kernel
theorem d_X11_read_162 : decode cX11_read 162 = .ok (.isub, 1) := by decide +kernel
theorem d_X11_read_163 : decode cX11_read 163 = .ok (.ireturn, 1) := by decide +kernel
theorem d_X11_read_164 : decode cX11_read 164 = .ok (.iinc 6 1, 3) := by decide +kernel
theorem d_X11_read_167 : decode cX11_read 167 = .ok (.iinc 8 1, 3) := by decide +kernel
theorem d_X11_read_170 : decode cX11_read 170 = .ok (.goto (-111), 3) := by decide +kernel
theorem d_X11_read_173 : decode cX11_read 173 = .ok (.aload_n 0, 1) := by decide +kernel
theorem d_X11_read_174 : decode cX11_read 174 = .ok (.iload 7, 2) := by decide +kernel
theorem d_X11_read_176 : decode cX11_read 176 = .ok (.putfield 262, 3) := by decide +kernel
theorem d_X11_read_179 : decode cX11_read 179 = .ok (.iload 6, 2) := by decide +kernel
theorem d_X11_read_181 : decode cX11_read 181 = .ok (.ireturn, 1) := by decide +kernel
theorem b_X11_read_0 {X : cX} {d : Nat} {μ : mM} {K : Option Value → mM → Prop} {r0 : Nat} {i1 : Nat} {l2 : Int32} {l3 : Int32} {l4 : Int32} {p0 : Nat} (hK : (e_X11_isSheet μ (nI i1)) = 0 → K (some (.int (-1))) μ) (hK_2 : ¬ (e_X11_isSheet μ (nI i1)) = 0 → (e_X11_isLane μ l2) = 0 → K (some (.int (-1))) μ) (hK_3 : ¬ (e_X11_isSheet μ (nI i1)) = 0 → ¬ (e_X11_isLane μ l2) = 0 → l4 < 0 → K (some (.int (-1))) μ) (hw11_r0 : WF11 μ r0) (hb : ¬ (e_X11_isSheet μ (nI i1)) = 0 → ¬ (e_X11_isLane μ l2) = 0 → ¬ l4 < 0 → l4 ≤ (13 : Int32) → i1 < 4) (hr_p0 : rv μ r0 2 = some p0) (hw10_p0 : WF10 μ p0) (hw5_r0123 : WF5 μ (r0 + 123)) (hc_copy : ¬ (e_X11_isSheet μ (nI i1)) = 0 → ¬ (e_X11_isLane μ l2) = 0 → ¬ l4 < 0 → l4 ≤ (13 : Int32) → Ct X (Rm (d + 3)) mX5_copy [.ref (r0 + 123), .ref (p0 + 1)] μ (fun r μ2 => G X (Rm (d + 4)) mX11_read 50 [(0, .ref r0), (2, .int l2), (3, .int l3), (4, .int l4), (5, .ref (r0 + 252 + 2 * i1))] (r.toList ++ []) μ2 0 0 K)) (hK_4 : ¬ (e_X11_isSheet μ (nI i1)) = 0 → ¬ (e_X11_isLane μ l2) = 0 → ¬ l4 < 0 → ¬ l4 ≤ (13 : Int32) → K (some (.int (-1))) μ) : G X (Rm (d + 4)) mX11_read 0 [(0, .ref r0), (1, .int (nI i1)), (2, .int l2), (3, .int l3), (4, .int l4)] [] μ 0 0 K := by
  refine G_iload_n d_X11_read_0 rfl 1 rfl ?_
  refine G_callS (M' := mX11_isSheet) (R' := (Rm (d + 3))) (S := []) [.int (nI i1)] ok_X11_isSheet ml_X11_239 pn_X11_isSheet (ru_Rm (by decide)) (Nat.le_of_ble_eq_true rfl) d_X11_read_1 (s_X11_isSheet (μ := μ)   ?_)
  show G X (Rm (d + 4)) mX11_read 4 [(0, .ref r0), (1, .int (nI i1)), (2, .int l2), (3, .int l3), (4, .int l4)] [.int (e_X11_isSheet μ (nI i1))] μ 0 0 K
  refine G_if_eq (tgt := 26) d_X11_read_4 rfl (fun c0 => ?_) (fun c0 => ?_)
  ·
    refine G_iconst d_X11_read_26 ic_m1 ?_
    exact G_iret rfl rfl rfl d_X11_read_27 (hK c0)
  ·
    refine G_iload_n d_X11_read_7 rfl 2 rfl ?_
    refine G_callS (M' := mX11_isLane) (R' := (Rm (d + 3))) (S := []) [.int l2] ok_X11_isLane ml_X11_242 pn_X11_isLane (ru_Rm (by decide)) (Nat.le_of_ble_eq_true rfl) d_X11_read_8 (s_X11_isLane (μ := μ)   ?_)
    show G X (Rm (d + 4)) mX11_read 11 [(0, .ref r0), (1, .int (nI i1)), (2, .int l2), (3, .int l3), (4, .int l4)] [.int (e_X11_isLane μ l2)] μ 0 0 K
    refine G_if_eq (tgt := 26) d_X11_read_11 rfl (fun c1 => ?_) (fun c1 => ?_)
    ·
      refine G_iconst d_X11_read_26 ic_m1 ?_
      exact G_iret rfl rfl rfl d_X11_read_27 (hK_2 c0 c1)
    ·
      refine G_iload d_X11_read_14 4 rfl ?_
      refine G_if_lt (tgt := 26) d_X11_read_16 rfl (fun c2 => ?_) (fun c2 => ?_)
      ·
        refine G_iconst d_X11_read_26 ic_m1 ?_
        exact G_iret rfl rfl rfl d_X11_read_27 (hK_3 c0 c1 c2)
      ·
        refine G_iload d_X11_read_19 4 rfl ?_
        refine G_bipush d_X11_read_21 bp_13 ?_
        refine G_icmp_le (tgt := 28) d_X11_read_23 rfl (fun c3 => ?_) (fun c3 => ?_)
        ·
          refine G_aload_n d_X11_read_28 rfl 0 rfl ?_
          refine G_getR (r := r0 + 122) 11 6 (w11_kd hw11_r0) (w11_f6 hw11_r0) cok11 (by decide) rfl fl_X11_42 d_X11_read_29 ?_
          refine G_iload_n d_X11_read_32 rfl 1 rfl ?_
          refine G_aaldT (r := r0 + 252 + 2 * i1) i1 (w11_k6 hw11_r0) rfl (hb c0 c1 c2 c3) (w11_r6 hw11_r0 i1 (hb c0 c1 c2 c3)) d_X11_read_33 ?_
          refine G_astore (L' := [(5, .ref (r0 + 252 + 2 * i1)), (0, .ref r0), (1, .int (nI i1)), (2, .int l2), (3, .int l3), (4, .int l4)]) d_X11_read_34 (by decide) rfl ?_
          refine G_aload_n d_X11_read_36 rfl 1 rfl ?_
          refine G_getR (r := r0 + 123) 11 8 (w11_kd hw11_r0) (w11_f8 hw11_r0) cok11 (by decide) rfl fl_X11_47 d_X11_read_37 ?_
          refine G_aload_n d_X11_read_40 rfl 1 rfl ?_
          refine G_getR (r := p0) 11 2 (w11_kd hw11_r0) hr_p0 cok11 (by decide) rfl fl_X11_26 d_X11_read_41 ?_
          refine G_getR (r := p0 + 1) 10 0 (w10_kd hw10_p0) (w10_f0 hw10_p0) cok10 (by decide) rfl fl_X11_114 d_X11_read_44 ?_
          refine G_sub (L' := [(0, .ref r0), (2, .int l2), (3, .int l3), (4, .int l4), (5, .ref (r0 + 252 + 2 * i1))]) [1, 3, 4, 5, 0] rfl ?_
          refine G_callV (M' := mX5_copy) (R' := (Rm (d + 3))) (S := []) [.ref (p0 + 1)] 5 (w5_kd hw5_r0123) cok5 rfl ok_X5_copy ml_X11_231 pn_X5_copy (ru_Rm (by decide)) (Nat.le_of_ble_eq_true rfl) d_X11_read_47 ?_
          exact (hc_copy c0 c1 c2 c3)
        ·
          refine G_iconst d_X11_read_26 ic_m1 ?_
          exact G_iret rfl rfl rfl d_X11_read_27 (hK_4 c0 c1 c2 c3)
theorem b_X11_read_50 {X : cX} {d : Nat} {μ : mM} {K : Option Value → mM → Prop} {r0 : Nat} {l2 : Int32} {l3 : Int32} {l4 : Int32} {r5 : Nat} (h : G X (Rm (d + 4)) mX11_read 59 [(0, .ref r0), (2, .int l2), (3, .int l3), (4, .int l4), (5, .ref r5), (6, .int (nI 0)), (7, .int 0), (8, .int (nI 0))] [] μ 0 0 K) : G X (Rm (d + 4)) mX11_read 50 [(0, .ref r0), (2, .int l2), (3, .int l3), (4, .int l4), (5, .ref r5)] [] μ 0 0 K := by
  refine G_iconst d_X11_read_50 ic_0 ?_
  refine G_istore (L' := [(6, .int (nI 0)), (0, .ref r0), (2, .int l2), (3, .int l3), (4, .int l4), (5, .ref r5)]) d_X11_read_51 (by decide) rfl ?_
  refine G_iconst d_X11_read_53 ic_0 ?_
  refine G_istore (L' := [(7, .int 0), (6, .int (nI 0)), (0, .ref r0), (2, .int l2), (3, .int l3), (4, .int l4), (5, .ref r5)]) d_X11_read_54 (by decide) rfl ?_
  refine G_iconst d_X11_read_56 ic_0 ?_
  refine G_istore (L' := [(8, .int (nI 0)), (7, .int 0), (6, .int (nI 0)), (0, .ref r0), (2, .int l2), (3, .int l3), (4, .int l4), (5, .ref r5)]) d_X11_read_57 (by decide) rfl ?_
  refine G_sub (L' := [(0, .ref r0), (2, .int l2), (3, .int l3), (4, .int l4), (5, .ref r5), (6, .int (nI 0)), (7, .int 0), (8, .int (nI 0))]) [3, 4, 5, 6, 7, 2, 1, 0] rfl ?_
  exact h
theorem b_X11_read_59 {X : cX} {d : Nat} {μ : mM} {K : Option Value → mM → Prop} {r0 : Nat} {l2 : Int32} {i3 : Nat} {l4 : Int32} {r5 : Nat} {l6 : Int32} {l7 : Int32} {i8 : Nat} {p0 : Nat} (h : l4 ≤ (nI i8) → G X (Rm (d + 4)) mX11_read 173 [(0, .ref r0), (6, .int l6), (7, .int l7)] [] μ 0 0 K) (h_2 : ¬ l4 ≤ (nI i8) → ¬ l7 = 0 → G X (Rm (d + 4)) mX11_read 173 [(0, .ref r0), (6, .int l6), (7, .int l7)] [] μ 0 0 K) (hw7_r5 : WF7 μ r5) (h_3 : ¬ l4 ≤ (nI i8) → l7 = 0 → ¬ (e_X7_findTaken μ r5 l2 ((nI i3) + ((3 : Int32) * (nI i8))) 3) = 0 → G X (Rm (d + 4)) mX11_read 167 [(0, .ref r0), (2, .int l2), (3, .int (nI i3)), (4, .int l4), (5, .ref r5), (6, .int l6), (7, .int (e_X7_findTaken μ r5 l2 ((nI i3) + ((3 : Int32) * (nI i8))) 3)), (8, .int (nI i8))] [] μ 0 0 K) (hw11_r0 : WF11 μ r0) (hr_p0 : rv μ r0 2 = some p0) (hw10_p0 : WF10 μ p0) (hb : ¬ l4 ≤ (nI i8) → l7 = 0 → (e_X7_findTaken μ r5 l2 ((nI i3) + ((3 : Int32) * (nI i8))) 3) = 0 → (i3 + (3 * i8)) < 40) (hb_2 : ¬ l4 ≤ (nI i8) → l7 = 0 → (e_X7_findTaken μ r5 l2 ((nI i3) + ((3 : Int32) * (nI i8))) 3) = 0 → ((i3 + (3 * i8)) + 1) < 40) (hb_3 : ¬ l4 ≤ (nI i8) → l7 = 0 → (e_X7_findTaken μ r5 l2 ((nI i3) + ((3 : Int32) * (nI i8))) 3) = 0 → ((i3 + (3 * i8)) + 2) < 40) (hw1_r0147 : WF1 μ (r0 + 147)) (hc_perform : ¬ l4 ≤ (nI i8) → l7 = 0 → (e_X7_findTaken μ r5 l2 ((nI i3) + ((3 : Int32) * (nI i8))) 3) = 0 → Ct X (Rm (d + 3)) mX1_perform [.ref (r0 + 147), .ref (p0 + 1), .int (iv μ (r5 + 1) (i3 + (3 * i8))), .int (iv μ (r5 + 1) ((i3 + (3 * i8)) + 1)), .int (iv μ (r5 + 1) ((i3 + (3 * i8)) + 2))] μ (fun r μ2 => G X (Rm (d + 4)) mX11_read 137 [(0, .ref r0), (2, .int l2), (3, .int (nI i3)), (4, .int l4), (5, .ref r5), (6, .int l6), (7, .int (e_X7_findTaken μ r5 l2 ((nI i3) + ((3 : Int32) * (nI i8))) 3)), (8, .int (nI i8))] (r.toList ++ []) μ2 0 0 K)) : G X (Rm (d + 4)) mX11_read 59 [(0, .ref r0), (2, .int l2), (3, .int (nI i3)), (4, .int l4), (5, .ref r5), (6, .int l6), (7, .int l7), (8, .int (nI i8))] [] μ 0 0 K := by
  refine G_iload d_X11_read_59 7 rfl ?_
  refine G_iload d_X11_read_61 3 rfl ?_
  refine G_icmp_ge (tgt := 173) d_X11_read_63 rfl (fun c0 => ?_) (fun c0 => ?_)
  ·
    refine G_sub (L' := [(0, .ref r0), (6, .int l6), (7, .int l7)]) [0, 5, 6] rfl ?_
    exact (h c0)
  ·
    refine G_iload d_X11_read_66 6 rfl ?_
    refine G_if_ne (tgt := 173) d_X11_read_68 rfl (fun c1 => ?_) (fun c1 => ?_)
    ·
      refine G_sub (L' := [(0, .ref r0), (6, .int l6), (7, .int l7)]) [0, 5, 6] rfl ?_
      exact (h_2 c0 c1)
    ·
      refine G_iload_n d_X11_read_71 rfl 2 rfl ?_
      refine G_iconst d_X11_read_72 ic_3 ?_
      refine G_iload d_X11_read_73 7 rfl ?_
      refine G_imul d_X11_read_75 ?_
      refine G_iadd d_X11_read_76 ?_
      refine G_istore (L' := [(9, .int ((nI i3) + ((3 : Int32) * (nI i8)))), (0, .ref r0), (2, .int l2), (3, .int (nI i3)), (4, .int l4), (5, .ref r5), (6, .int l6), (7, .int l7), (8, .int (nI i8))]) d_X11_read_77 (by decide) rfl ?_
      refine G_aload d_X11_read_79 5 rfl ?_
      refine G_iload_n d_X11_read_81 rfl 2 rfl ?_
      refine G_iload d_X11_read_82 0 rfl ?_
      refine G_iconst d_X11_read_84 ic_3 ?_
      refine G_callV (M' := mX7_findTaken) (R' := (Rm (d + 3))) (S := []) [.int l2, .int ((nI i3) + ((3 : Int32) * (nI i8))), .int 3] 7 (w7_kd hw7_r5) cok7 rfl ok_X7_findTaken ml_X11_252 pn_X7_findTaken (ru_Rm (by decide)) (Nat.le_of_ble_eq_true rfl) d_X11_read_85 (s_X7_findTaken (μ := μ)  hw7_r5 ?_)
      show G X (Rm (d + 4)) mX11_read 88 [(9, .int ((nI i3) + ((3 : Int32) * (nI i8)))), (0, .ref r0), (2, .int l2), (3, .int (nI i3)), (4, .int l4), (5, .ref r5), (6, .int l6), (7, .int l7), (8, .int (nI i8))] [.int (e_X7_findTaken μ r5 l2 ((nI i3) + ((3 : Int32) * (nI i8))) 3)] μ 0 0 K
      refine G_istore (L' := [(7, .int (e_X7_findTaken μ r5 l2 ((nI i3) + ((3 : Int32) * (nI i8))) 3)), (9, .int ((nI i3) + ((3 : Int32) * (nI i8)))), (0, .ref r0), (2, .int l2), (3, .int (nI i3)), (4, .int l4), (5, .ref r5), (6, .int l6), (8, .int (nI i8))]) d_X11_read_88 (by decide) rfl ?_
      refine G_iload d_X11_read_90 0 rfl ?_
      refine G_if_ne (tgt := 167) d_X11_read_92 rfl (fun c2 => ?_) (fun c2 => ?_)
      ·
        refine G_sub (L' := [(0, .ref r0), (2, .int l2), (3, .int (nI i3)), (4, .int l4), (5, .ref r5), (6, .int l6), (7, .int (e_X7_findTaken μ r5 l2 ((nI i3) + ((3 : Int32) * (nI i8))) 3)), (8, .int (nI i8))]) [2, 3, 4, 5, 6, 7, 0, 8] rfl ?_
        exact (h_3 c0 c1 c2)
      ·
        refine G_aload_n d_X11_read_95 rfl 2 rfl ?_
        refine G_getR (r := r0 + 147) 11 9 (w11_kd hw11_r0) (w11_f9 hw11_r0) cok11 (by decide) rfl fl_X11_54 d_X11_read_96 ?_
        refine G_aload_n d_X11_read_99 rfl 2 rfl ?_
        refine G_getR (r := p0) 11 2 (w11_kd hw11_r0) hr_p0 cok11 (by decide) rfl fl_X11_26 d_X11_read_100 ?_
        refine G_getR (r := p0 + 1) 10 0 (w10_kd hw10_p0) (w10_f0 hw10_p0) cok10 (by decide) rfl fl_X11_114 d_X11_read_103 ?_
        refine G_aload d_X11_read_106 6 rfl ?_
        refine G_getR (r := r5 + 1) 7 3 (w7_kd hw7_r5) (w7_f3 hw7_r5) cok7 (by decide) rfl fl_X11_258 d_X11_read_108 ?_
        refine G_iload d_X11_read_111 1 rfl ?_
        refine G_iald (i3 + (3 * i8)) (w7_k3 hw7_r5) (nadd rfl (nmul rfl rfl)) (hb c0 c1 c2) d_X11_read_113 ?_
        refine G_aload d_X11_read_114 6 rfl ?_
        refine G_getR (r := r5 + 1) 7 3 (w7_kd hw7_r5) (w7_f3 hw7_r5) cok7 (by decide) rfl fl_X11_258 d_X11_read_116 ?_
        refine G_iload d_X11_read_119 1 rfl ?_
        refine G_iconst d_X11_read_121 ic_1 ?_
        refine G_iadd d_X11_read_122 ?_
        refine G_iald ((i3 + (3 * i8)) + 1) (w7_k3 hw7_r5) (nadd (nadd rfl (nmul rfl rfl)) rfl) (hb_2 c0 c1 c2) d_X11_read_123 ?_
        refine G_aload d_X11_read_124 6 rfl ?_
        refine G_getR (r := r5 + 1) 7 3 (w7_kd hw7_r5) (w7_f3 hw7_r5) cok7 (by decide) rfl fl_X11_258 d_X11_read_126 ?_
        refine G_iload d_X11_read_129 1 rfl ?_
        refine G_iconst d_X11_read_131 ic_2 ?_
        refine G_iadd d_X11_read_132 ?_
        refine G_iald ((i3 + (3 * i8)) + 2) (w7_k3 hw7_r5) (nadd (nadd rfl (nmul rfl rfl)) rfl) (hb_3 c0 c1 c2) d_X11_read_133 ?_
        refine G_sub (L' := [(0, .ref r0), (2, .int l2), (3, .int (nI i3)), (4, .int l4), (5, .ref r5), (6, .int l6), (7, .int (e_X7_findTaken μ r5 l2 ((nI i3) + ((3 : Int32) * (nI i8))) 3)), (8, .int (nI i8))]) [2, 3, 4, 5, 6, 7, 0, 8] rfl ?_
        refine G_callV (M' := mX1_perform) (R' := (Rm (d + 3))) (S := []) [.ref (p0 + 1), .int (iv μ (r5 + 1) (i3 + (3 * i8))), .int (iv μ (r5 + 1) ((i3 + (3 * i8)) + 1)), .int (iv μ (r5 + 1) ((i3 + (3 * i8)) + 2))] 1 (w1_kd hw1_r0147) cok1 rfl ok_X1_perform ml_X11_210 pn_X1_perform (ru_Rm (by decide)) (Nat.le_of_ble_eq_true rfl) d_X11_read_134 ?_
        exact (hc_perform c0 c1 c2)
theorem b_X11_read_137 {X : cX} {d : Nat} {μ : mM} {K : Option Value → mM → Prop} {r0 : Nat} {l2 : Int32} {l3 : Int32} {l4 : Int32} {r5 : Nat} {i6 : Nat} {l7 : Int32} {l8 : Int32} {v0 : Int32} {p0 : Nat} (h : 0 ≤ v0 → G X (Rm (d + 4)) mX11_read 167 [(0, .ref r0), (2, .int l2), (3, .int l3), (4, .int l4), (5, .ref r5), (6, .int (nI (i6 + 1))), (7, .int l7), (8, .int l8)] [] μ 0 0 K) (hw11_r0 : WF11 μ r0) (hr_p0 : rv μ r0 2 = some p0) (hw10_p0 : WF10 μ p0) (hw5_p01 : WF5 μ (p0 + 1)) (hc_copy : ¬ 0 ≤ v0 → Ct X (Rm (d + 3)) mX5_copy [.ref (p0 + 1), .ref (r0 + 123)] μ (fun r μ2 => G X (Rm (d + 4)) mX11_read 158 [(8, .int l8)] (r.toList ++ []) μ2 0 0 K)) : G X (Rm (d + 4)) mX11_read 137 [(0, .ref r0), (2, .int l2), (3, .int l3), (4, .int l4), (5, .ref r5), (6, .int (nI i6)), (7, .int l7), (8, .int l8)] [.int v0] μ 0 0 K := by
  refine G_istore (L' := [(10, .int v0), (0, .ref r0), (2, .int l2), (3, .int l3), (4, .int l4), (5, .ref r5), (6, .int (nI i6)), (7, .int l7), (8, .int l8)]) d_X11_read_137 (by decide) rfl ?_
  refine G_iload d_X11_read_139 0 rfl ?_
  refine G_if_ge (tgt := 164) d_X11_read_141 rfl (fun c0 => ?_) (fun c0 => ?_)
  ·
    refine G_iinc (L' := [(6, .int (nI (i6 + 1))), (10, .int v0), (0, .ref r0), (2, .int l2), (3, .int l3), (4, .int l4), (5, .ref r5), (7, .int l7), (8, .int l8)]) d_X11_read_164 6 rfl (inc1 i6) (by decide) rfl ?_
    refine G_sub (L' := [(0, .ref r0), (2, .int l2), (3, .int l3), (4, .int l4), (5, .ref r5), (6, .int (nI (i6 + 1))), (7, .int l7), (8, .int l8)]) [2, 3, 4, 5, 6, 0, 7, 8] rfl ?_
    exact (h c0)
  ·
    refine G_aload_n d_X11_read_144 rfl 1 rfl ?_
    refine G_getR (r := p0) 11 2 (w11_kd hw11_r0) hr_p0 cok11 (by decide) rfl fl_X11_26 d_X11_read_145 ?_
    refine G_getR (r := p0 + 1) 10 0 (w10_kd hw10_p0) (w10_f0 hw10_p0) cok10 (by decide) rfl fl_X11_114 d_X11_read_148 ?_
    refine G_aload_n d_X11_read_151 rfl 1 rfl ?_
    refine G_getR (r := r0 + 123) 11 8 (w11_kd hw11_r0) (w11_f8 hw11_r0) cok11 (by decide) rfl fl_X11_47 d_X11_read_152 ?_
    refine G_sub (L' := [(8, .int l8)]) [8] rfl ?_
    refine G_callV (M' := mX5_copy) (R' := (Rm (d + 3))) (S := []) [.ref (r0 + 123)] 5 (w5_kd hw5_p01) cok5 rfl ok_X5_copy ml_X11_231 pn_X5_copy (ru_Rm (by decide)) (Nat.le_of_ble_eq_true rfl) d_X11_read_155 ?_
    exact (hc_copy c0)
theorem b_X11_read_158 {X : cX} {d : Nat} {μ : mM} {K : Option Value → mM → Prop} {l8 : Int32} (hK : K (some (.int (((-20) : Int32) - l8))) μ) : G X (Rm (d + 4)) mX11_read 158 [(8, .int l8)] [] μ 0 0 K := by
  refine G_bipush d_X11_read_158 bp_m20 ?_
  refine G_iload d_X11_read_160 0 rfl ?_
  refine G_isub d_X11_read_162 ?_
  exact G_iret rfl rfl rfl d_X11_read_163 hK
theorem b_X11_read_167 {X : cX} {d : Nat} {μ : mM} {K : Option Value → mM → Prop} {r0 : Nat} {l2 : Int32} {l3 : Int32} {l4 : Int32} {r5 : Nat} {l6 : Int32} {l7 : Int32} {i8 : Nat} (h : G X (Rm (d + 4)) mX11_read 59 [(0, .ref r0), (2, .int l2), (3, .int l3), (4, .int l4), (5, .ref r5), (6, .int l6), (7, .int l7), (8, .int (nI (i8 + 1)))] [] μ 0 0 K) : G X (Rm (d + 4)) mX11_read 167 [(0, .ref r0), (2, .int l2), (3, .int l3), (4, .int l4), (5, .ref r5), (6, .int l6), (7, .int l7), (8, .int (nI i8))] [] μ 0 0 K := by
  refine G_iinc (L' := [(8, .int (nI (i8 + 1))), (0, .ref r0), (2, .int l2), (3, .int l3), (4, .int l4), (5, .ref r5), (6, .int l6), (7, .int l7)]) d_X11_read_167 7 rfl (inc1 i8) (by decide) rfl ?_
  refine G_goto (tgt := 59) d_X11_read_170 rfl ?_
  refine G_sub (L' := [(0, .ref r0), (2, .int l2), (3, .int l3), (4, .int l4), (5, .ref r5), (6, .int l6), (7, .int l7), (8, .int (nI (i8 + 1)))]) [1, 2, 3, 4, 5, 6, 7, 0] rfl ?_
  exact h
theorem b_X11_read_173 {X : cX} {d : Nat} {μ : mM} {K : Option Value → mM → Prop} {r0 : Nat} {l6 : Int32} {l7 : Int32} (hw11_r0 : WF11 μ r0) (hK : K (some (.int l6)) (wi μ r0 7 l7)) : G X (Rm (d + 4)) mX11_read 173 [(0, .ref r0), (6, .int l6), (7, .int l7)] [] μ 0 0 K := by
  refine G_aload_n d_X11_read_173 rfl 0 rfl ?_
  refine G_iload d_X11_read_174 2 rfl ?_
  refine G_putI 11 7 (w11_kd hw11_r0) rfl rfl cok11 (by decide) rfl (Or.inl rfl) fl_X11_262 d_X11_read_176 ?_
  refine G_iload d_X11_read_179 1 rfl ?_
  exact G_iret rfl rfl rfl d_X11_read_181 hK
theorem d_X11_torn_0 : decode cX11_torn 0 = .ok (.aload_n 0, 1) := by decide +kernel
theorem d_X11_torn_1 : decode cX11_torn 1 = .ok (.getfield 262, 3) := by decide +kernel
theorem d_X11_torn_4 : decode cX11_torn 4 = .ok (.ireturn, 1) := by decide +kernel
theorem b_X11_torn_0 {X : cX} {d : Nat} {μ : mM} {K : Option Value → mM → Prop} {r0 : Nat} (hw11_r0 : WF11 μ r0) (hK : K (some (.int (iv μ r0 7))) μ) : G X (Rm d) mX11_torn 0 [(0, .ref r0)] [] μ 0 0 K := by
  refine G_aload_n d_X11_torn_0 rfl 0 rfl ?_
  refine G_getI 11 7 (w11_kd hw11_r0) cok11 (by decide) rfl fl_X11_262 d_X11_torn_1 ?_
  exact G_iret rfl rfl rfl d_X11_torn_4 hK
def e_X11_torn (μ : mM) (r0 : Nat) : Int32 := (iv μ r0 7)
theorem s_X11_torn {X : cX} {d : Nat} {μ : mM} {K : Option Value → mM → Prop} {r0 : Nat} (hw11_r0 : WF11 μ r0) (hK : K (some (.int (e_X11_torn μ r0))) μ) : Ct X (Rm d) mX11_torn [.ref r0] μ K := Ct_of rfl (Nat.le_of_ble_eq_true rfl) (G_sub [0] rfl (b_X11_torn_0 hw11_r0 hK))
theorem d_X11_imagesKept_0 : decode cX11_imagesKept 0 = .ok (.iconst 0, 1) := by decide +kernel
theorem d_X11_imagesKept_1 : decode cX11_imagesKept 1 = .ok (.istore_n 1, 1) := by decide +kernel
theorem d_X11_imagesKept_2 : decode cX11_imagesKept 2 = .ok (.iconst 0, 1) := by decide +kernel
theorem d_X11_imagesKept_3 : decode cX11_imagesKept 3 = .ok (.istore_n 2, 1) := by decide +kernel
theorem d_X11_imagesKept_4 : decode cX11_imagesKept 4 = .ok (.iload_n 2, 1) := by decide +kernel
theorem d_X11_imagesKept_5 : decode cX11_imagesKept 5 = .ok (.iconst 2, 1) := by decide +kernel
theorem d_X11_imagesKept_6 : decode cX11_imagesKept 6 = .ok (.if_icmp .ge 21, 3) := by decide +kernel
theorem d_X11_imagesKept_9 : decode cX11_imagesKept 9 = .ok (.aload_n 0, 1) := by decide +kernel
theorem d_X11_imagesKept_10 : decode cX11_imagesKept 10 = .ok (.getfield 36, 3) := by decide +kernel
theorem d_X11_imagesKept_13 : decode cX11_imagesKept 13 = .ok (.iload_n 2, 1) := by decide +kernel
theorem d_X11_imagesKept_14 : decode cX11_imagesKept 14 = .ok (.baload, 1) := by decide +kernel
theorem d_X11_imagesKept_15 : decode cX11_imagesKept 15 = .ok (.ifCond .eq 6, 3) := by decide +kernel
theorem d_X11_imagesKept_18 : decode cX11_imagesKept 18 = .ok (.iinc 1 1, 3) := by decide +kernel
theorem d_X11_imagesKept_21 : decode cX11_imagesKept 21 = .ok (.iinc 2 1, 3) := by decide +kernel
theorem d_X11_imagesKept_24 : decode cX11_imagesKept 24 = .ok (.goto (-20), 3) := by decide +kernel
theorem d_X11_imagesKept_27 : decode cX11_imagesKept 27 = .ok (.iload_n 1, 1) := by decide +kernel
theorem d_X11_imagesKept_28 : decode cX11_imagesKept 28 = .ok (.ireturn, 1) := by decide +kernel
theorem b_X11_imagesKept_0 {X : cX} {d : Nat} {μ : mM} {K : Option Value → mM → Prop} {r0 : Nat} (h : G X (Rm d) mX11_imagesKept 4 [(0, .ref r0), (1, .int (nI 0)), (2, .int (nI 0))] [] μ 0 0 K) : G X (Rm d) mX11_imagesKept 0 [(0, .ref r0)] [] μ 0 0 K := by
  refine G_iconst d_X11_imagesKept_0 ic_0 ?_
  refine G_istore_n (L' := [(1, .int (nI 0)), (0, .ref r0)]) d_X11_imagesKept_1 rfl (by decide) rfl ?_
  refine G_iconst d_X11_imagesKept_2 ic_0 ?_
  refine G_istore_n (L' := [(2, .int (nI 0)), (1, .int (nI 0)), (0, .ref r0)]) d_X11_imagesKept_3 rfl (by decide) rfl ?_
  refine G_sub (L' := [(0, .ref r0), (1, .int (nI 0)), (2, .int (nI 0))]) [2, 1, 0] rfl ?_
  exact h
theorem b_X11_imagesKept_4 {X : cX} {d : Nat} {μ : mM} {K : Option Value → mM → Prop} {r0 : Nat} {i1 : Nat} {i2 : Nat} (hK : (2 : Int32) ≤ (nI i2) → K (some (.int (nI i1))) μ) (hw11_r0 : WF11 μ r0) (hb : ¬ (2 : Int32) ≤ (nI i2) → i2 < 2) (h : ¬ (2 : Int32) ≤ (nI i2) → (iv μ (r0 + 121) i2) = 0 → G X (Rm d) mX11_imagesKept 21 [(0, .ref r0), (1, .int (nI i1)), (2, .int (nI i2))] [] μ 0 0 K) (h_2 : ¬ (2 : Int32) ≤ (nI i2) → ¬ (iv μ (r0 + 121) i2) = 0 → G X (Rm d) mX11_imagesKept 21 [(0, .ref r0), (1, .int (nI (i1 + 1))), (2, .int (nI i2))] [] μ 0 0 K) : G X (Rm d) mX11_imagesKept 4 [(0, .ref r0), (1, .int (nI i1)), (2, .int (nI i2))] [] μ 0 0 K := by
  refine G_iload_n d_X11_imagesKept_4 rfl 2 rfl ?_
  refine G_iconst d_X11_imagesKept_5 ic_2 ?_
  refine G_icmp_ge (tgt := 27) d_X11_imagesKept_6 rfl (fun c0 => ?_) (fun c0 => ?_)
  ·
    refine G_iload_n d_X11_imagesKept_27 rfl 1 rfl ?_
    exact G_iret rfl rfl rfl d_X11_imagesKept_28 (hK c0)
  ·
    refine G_aload_n d_X11_imagesKept_9 rfl 0 rfl ?_
    refine G_getR (r := r0 + 121) 11 5 (w11_kd hw11_r0) (w11_f5 hw11_r0) cok11 (by decide) rfl fl_X11_36 d_X11_imagesKept_10 ?_
    refine G_iload_n d_X11_imagesKept_13 rfl 2 rfl ?_
    refine G_zald i2 (w11_k5 hw11_r0) rfl (hb c0) d_X11_imagesKept_14 ?_
    refine G_if_eq (tgt := 21) d_X11_imagesKept_15 rfl (fun c1 => ?_) (fun c1 => ?_)
    ·
      exact (h c0 c1)
    ·
      refine G_iinc (L' := [(1, .int (nI (i1 + 1))), (0, .ref r0), (2, .int (nI i2))]) d_X11_imagesKept_18 1 rfl (inc1 i1) (by decide) rfl ?_
      refine G_sub (L' := [(0, .ref r0), (1, .int (nI (i1 + 1))), (2, .int (nI i2))]) [1, 0, 2] rfl ?_
      exact (h_2 c0 c1)
theorem b_X11_imagesKept_21 {X : cX} {d : Nat} {μ : mM} {K : Option Value → mM → Prop} {r0 : Nat} {l1 : Int32} {i2 : Nat} (h : G X (Rm d) mX11_imagesKept 4 [(0, .ref r0), (1, .int l1), (2, .int (nI (i2 + 1)))] [] μ 0 0 K) : G X (Rm d) mX11_imagesKept 21 [(0, .ref r0), (1, .int l1), (2, .int (nI i2))] [] μ 0 0 K := by
  refine G_iinc (L' := [(2, .int (nI (i2 + 1))), (0, .ref r0), (1, .int l1)]) d_X11_imagesKept_21 2 rfl (inc1 i2) (by decide) rfl ?_
  refine G_goto (tgt := 4) d_X11_imagesKept_24 rfl ?_
  refine G_sub (L' := [(0, .ref r0), (1, .int l1), (2, .int (nI (i2 + 1)))]) [1, 2, 0] rfl ?_
  exact h
theorem d_X11_count_0 : decode cX11_count 0 = .ok (.iload_n 1, 1) := by decide +kernel
theorem d_X11_count_1 : decode cX11_count 1 = .ok (.tableswitch 79 0 3 #[31, 36, 44, 71], 31) := by decide +kernel
theorem d_X11_count_32 : decode cX11_count 32 = .ok (.aload_n 0, 1) := by decide +kernel
theorem d_X11_count_33 : decode cX11_count 33 = .ok (.invokevirtual 265, 3) := by decide +kernel
theorem d_X11_count_36 : decode cX11_count 36 = .ok (.ireturn, 1) := by decide +kernel
theorem d_X11_count_37 : decode cX11_count 37 = .ok (.aload_n 0, 1) := by decide +kernel
theorem d_X11_count_38 : decode cX11_count 38 = .ok (.getfield 10, 3) := by decide +kernel
theorem d_X11_count_41 : decode cX11_count 41 = .ok (.getfield 91, 3) := by decide +kernel
theorem d_X11_count_44 : decode cX11_count 44 = .ok (.ireturn, 1) := by decide +kernel
theorem d_X11_count_45 : decode cX11_count 45 = .ok (.aload_n 0, 1) := by decide +kernel
theorem d_X11_count_46 : decode cX11_count 46 = .ok (.getfield 42, 3) := by decide +kernel
theorem d_X11_count_49 : decode cX11_count 49 = .ok (.iconst 0, 1) := by decide +kernel
theorem d_X11_count_50 : decode cX11_count 50 = .ok (.aaload, 1) := by decide +kernel
theorem d_X11_count_51 : decode cX11_count 51 = .ok (.getfield 268, 3) := by decide +kernel
theorem d_X11_count_54 : decode cX11_count 54 = .ok (.ifCond .eq 15, 3) := by decide +kernel
theorem d_X11_count_57 : decode cX11_count 57 = .ok (.aload_n 0, 1) := by decide +kernel
theorem d_X11_count_58 : decode cX11_count 58 = .ok (.getfield 42, 3) := by decide +kernel
theorem d_X11_count_61 : decode cX11_count 61 = .ok (.iconst 0, 1) := by decide +kernel
theorem d_X11_count_62 : decode cX11_count 62 = .ok (.aaload, 1) := by decide +kernel
theorem d_X11_count_63 : decode cX11_count 63 = .ok (.getfield 272, 3) := by decide +kernel
theorem d_X11_count_66 : decode cX11_count 66 = .ok (.goto 5, 3) := by decide +kernel
theorem d_X11_count_69 : decode cX11_count 69 = .ok (.bipush (-4), 2) := by decide +kernel
theorem d_X11_count_71 : decode cX11_count 71 = .ok (.ireturn, 1) := by decide +kernel
theorem d_X11_count_72 : decode cX11_count 72 = .ok (.aload_n 0, 1) := by decide +kernel
theorem d_X11_count_73 : decode cX11_count 73 = .ok (.getfield 26, 3) := by decide +kernel
theorem d_X11_count_76 : decode cX11_count 76 = .ok (.invokevirtual 273, 3) := by decide +kernel
theorem d_X11_count_79 : decode cX11_count 79 = .ok (.ireturn, 1) := by decide +kernel
theorem d_X11_count_80 : decode cX11_count 80 = .ok (.iconst (-1), 1) := by decide +kernel
theorem d_X11_count_81 : decode cX11_count 81 = .ok (.ireturn, 1) := by decide +kernel
theorem b_X11_count_0 {X : cX} {d : Nat} {μ : mM} {K : Option Value → mM → Prop} {r0 : Nat} {l1 : Int32} {p0 : Nat} (hw11_r0 : WF11 μ r0) (hc_imagesKept : l1 = 0 → Ct X (Rm d) mX11_imagesKept [.ref r0] μ (fun r μ2 => G X (Rm (d + 1)) mX11_count 36 [] (r.toList ++ []) μ2 0 0 K)) (hw9_r01 : WF9 μ (r0 + 1)) (hK : l1 = 1 → K (some (.int (iv μ (r0 + 1) 1))) μ) (hw7_r025220 : WF7 μ (r0 + 252 + 2 * 0)) (hK_2 : l1 = 2 → (iv μ (r0 + 252 + 2 * 0) 0) = 0 → K (some (.int (-4))) μ) (hK_3 : l1 = 2 → ¬ (iv μ (r0 + 252 + 2 * 0) 0) = 0 → K (some (.int (iv μ (r0 + 252 + 2 * 0) 2))) μ) (hr_p0 : rv μ r0 2 = some p0) (hw10_p0 : WF10 μ p0) (hc_itemsOfAll : l1 = 3 → Ct X (Rm d) mX10_itemsOfAll [.ref p0] μ (fun r μ2 => G X (Rm (d + 1)) mX11_count 79 [] (r.toList ++ []) μ2 0 0 K)) (hK_4 : (l1.toInt < 0 ∨ 3 < l1.toInt) → K (some (.int (-1))) μ) : G X (Rm (d + 1)) mX11_count 0 [(0, .ref r0), (1, .int l1)] [] μ 0 0 K := by
  refine G_iload_n d_X11_count_0 rfl 1 rfl ?_
  by_cases c0 : l1 = 0
  ·
    refine G_tableIn (tgt := 32) (off := 31) d_X11_count_1 (by rw [c0]; decide) (by rw [c0]; decide) (by rw [c0]; decide) rfl ?_
    refine G_aload_n d_X11_count_32 rfl 0 rfl ?_
    refine G_sub (L' := []) [] rfl ?_
    refine G_callV (M' := mX11_imagesKept) (R' := (Rm d)) (S := []) [] 11 (w11_kd hw11_r0) cok11 rfl ok_X11_imagesKept ml_X11_265 pn_X11_imagesKept (ru_Rm (by decide)) (Nat.le_of_ble_eq_true rfl) d_X11_count_33 ?_
    exact (hc_imagesKept c0)
  have z0 := lv_neT c0 (show (0 : Int32).toInt = 0 from rfl)
  by_cases c0 : l1 = 1
  ·
    refine G_tableIn (tgt := 37) (off := 36) d_X11_count_1 (by rw [c0]; decide) (by rw [c0]; decide) (by rw [c0]; decide) rfl ?_
    refine G_aload_n d_X11_count_37 rfl 0 rfl ?_
    refine G_getR (r := r0 + 1) 11 0 (w11_kd hw11_r0) (w11_f0 hw11_r0) cok11 (by decide) rfl fl_X11_10 d_X11_count_38 ?_
    refine G_getI 9 1 (w9_kd hw9_r01) cok9 (by decide) rfl fl_X11_91 d_X11_count_41 ?_
    exact G_iret rfl rfl rfl d_X11_count_44 (hK c0)
  have z1 := lv_neT c0 (show (1 : Int32).toInt = 1 from rfl)
  by_cases c0 : l1 = 2
  ·
    refine G_tableIn (tgt := 45) (off := 44) d_X11_count_1 (by rw [c0]; decide) (by rw [c0]; decide) (by rw [c0]; decide) rfl ?_
    refine G_aload_n d_X11_count_45 rfl 0 rfl ?_
    refine G_getR (r := r0 + 122) 11 6 (w11_kd hw11_r0) (w11_f6 hw11_r0) cok11 (by decide) rfl fl_X11_42 d_X11_count_46 ?_
    refine G_iconst d_X11_count_49 ic_0 ?_
    refine G_aaldT (r := r0 + 252 + 2 * 0) 0 (w11_k6 hw11_r0) rfl (by decide) (w11_r6 hw11_r0 0 (by decide)) d_X11_count_50 ?_
    refine G_getI 7 0 (w7_kd hw7_r025220) cok7 (by decide) rfl fl_X11_268 d_X11_count_51 ?_
    refine G_if_eq (tgt := 69) d_X11_count_54 rfl (fun c1 => ?_) (fun c1 => ?_)
    ·
      refine G_bipush d_X11_count_69 bp_m4 ?_
      exact G_iret rfl rfl rfl d_X11_count_71 (hK_2 c0 c1)
    ·
      refine G_aload_n d_X11_count_57 rfl 0 rfl ?_
      refine G_getR (r := r0 + 122) 11 6 (w11_kd hw11_r0) (w11_f6 hw11_r0) cok11 (by decide) rfl fl_X11_42 d_X11_count_58 ?_
      refine G_iconst d_X11_count_61 ic_0 ?_
      refine G_aaldT (r := r0 + 252 + 2 * 0) 0 (w11_k6 hw11_r0) rfl (by decide) (w11_r6 hw11_r0 0 (by decide)) d_X11_count_62 ?_
      refine G_getI 7 2 (w7_kd hw7_r025220) cok7 (by decide) rfl fl_X11_272 d_X11_count_63 ?_
      refine G_goto (tgt := 71) d_X11_count_66 rfl ?_
      exact G_iret rfl rfl rfl d_X11_count_71 (hK_3 c0 c1)
  have z2 := lv_neT c0 (show (2 : Int32).toInt = 2 from rfl)
  by_cases c0 : l1 = 3
  ·
    refine G_tableIn (tgt := 72) (off := 71) d_X11_count_1 (by rw [c0]; decide) (by rw [c0]; decide) (by rw [c0]; decide) rfl ?_
    refine G_aload_n d_X11_count_72 rfl 0 rfl ?_
    refine G_getR (r := p0) 11 2 (w11_kd hw11_r0) hr_p0 cok11 (by decide) rfl fl_X11_26 d_X11_count_73 ?_
    refine G_sub (L' := []) [] rfl ?_
    refine G_callV (M' := mX10_itemsOfAll) (R' := (Rm d)) (S := []) [] 10 (w10_kd hw10_p0) cok10 rfl ok_X10_itemsOfAll ml_X11_273 pn_X10_itemsOfAll (ru_Rm (by decide)) (Nat.le_of_ble_eq_true rfl) d_X11_count_76 ?_
    exact (hc_itemsOfAll c0)
  have z3 := lv_neT c0 (show (3 : Int32).toInt = 3 from rfl)
  have c0 : l1.toInt < 0 ∨ 3 < l1.toInt := by omega
  refine G_tableOut (tgt := 80) d_X11_count_1 c0 rfl ?_
  refine G_iconst d_X11_count_80 ic_m1 ?_
  exact G_iret rfl rfl rfl d_X11_count_81 (hK_4 c0)
theorem b_X11_count_36 {X : cX} {d : Nat} {μ : mM} {K : Option Value → mM → Prop} {v0 : Int32} (hK : K (some (.int v0)) μ) : G X (Rm (d + 1)) mX11_count 36 [] [.int v0] μ 0 0 K := by
  exact G_iret rfl rfl rfl d_X11_count_36 hK
theorem b_X11_count_79 {X : cX} {d : Nat} {μ : mM} {K : Option Value → mM → Prop} {v0 : Int32} (hK : K (some (.int v0)) μ) : G X (Rm (d + 1)) mX11_count 79 [] [.int v0] μ 0 0 K := by
  exact G_iret rfl rfl rfl d_X11_count_79 hK
theorem d_X12_in_0 : decode cX12_in 0 = .ok (.lload_n 0, 1) := by decide +kernel
theorem d_X12_in_1 : decode cX12_in 1 = .ok (.lload_n 2, 1) := by decide +kernel
theorem d_X12_in_2 : decode cX12_in 2 = .ok (.lcmp, 1) := by decide +kernel
theorem d_X12_in_3 : decode cX12_in 3 = .ok (.ifCond .lt 14, 3) := by decide +kernel
theorem d_X12_in_6 : decode cX12_in 6 = .ok (.lload_n 0, 1) := by decide +kernel
theorem d_X12_in_7 : decode cX12_in 7 = .ok (.lload 4, 2) := by decide +kernel
theorem d_X12_in_9 : decode cX12_in 9 = .ok (.lcmp, 1) := by decide +kernel
theorem d_X12_in_10 : decode cX12_in 10 = .ok (.ifCond .gt 7, 3) := by decide +kernel
theorem d_X12_in_13 : decode cX12_in 13 = .ok (.iconst 1, 1) := by decide +kernel
theorem d_X12_in_14 : decode cX12_in 14 = .ok (.goto 4, 3) := by decide +kernel
theorem d_X12_in_17 : decode cX12_in 17 = .ok (.iconst 0, 1) := by decide +kernel
theorem d_X12_in_18 : decode cX12_in 18 = .ok (.ireturn, 1) := by decide +kernel
theorem b_X12_in_0 {X : cX} {d : Nat} {μ : mM} {K : Option Value → mM → Prop} {g0 : Int64} {g2 : Int64} {g4 : Int64} (hK : (lg_cmp g0 g2) < 0 → K (some (.int 0)) μ) (hK_2 : ¬ (lg_cmp g0 g2) < 0 → 0 < (lg_cmp g0 g4) → K (some (.int 0)) μ) (hK_3 : ¬ (lg_cmp g0 g2) < 0 → ¬ 0 < (lg_cmp g0 g4) → K (some (.int 1)) μ) : G X (Rm d) mX12_in 0 [(0, .long g0), (2, .long g2), (4, .long g4)] [] μ 0 0 K := by
  refine G_lload_n d_X12_in_0 rfl 0 rfl ?_
  refine G_lload_n d_X12_in_1 rfl 1 rfl ?_
  refine G_lcmp d_X12_in_2 ?_
  refine G_if_lt (tgt := 17) d_X12_in_3 rfl (fun c0 => ?_) (fun c0 => ?_)
  ·
    refine G_iconst d_X12_in_17 ic_0 ?_
    exact G_zret rfl rfl rfl rfl d_X12_in_18 (hK c0)
  ·
    refine G_lload_n d_X12_in_6 rfl 0 rfl ?_
    refine G_lload d_X12_in_7 2 rfl ?_
    refine G_lcmp d_X12_in_9 ?_
    refine G_if_gt (tgt := 17) d_X12_in_10 rfl (fun c1 => ?_) (fun c1 => ?_)
    ·
      refine G_iconst d_X12_in_17 ic_0 ?_
      exact G_zret rfl rfl rfl rfl d_X12_in_18 (hK_2 c0 c1)
    ·
      refine G_iconst d_X12_in_13 ic_1 ?_
      refine G_goto (tgt := 18) d_X12_in_14 rfl ?_
      exact G_zret rfl rfl rfl rfl d_X12_in_18 (hK_3 c0 c1)
def e_X12_in (μ : mM) (g0 : Int64) (g2 : Int64) (g4 : Int64) : Int32 := (if (lg_cmp g0 g2) < 0 then 0 else (if 0 < (lg_cmp g0 g4) then 0 else 1))
theorem s_X12_in {X : cX} {d : Nat} {μ : mM} {K : Option Value → mM → Prop} {g0 : Int64} {g2 : Int64} {g4 : Int64}  (hK : K (some (.int (e_X12_in μ g0 g2 g4))) μ) : Ct X (Rm d) mX12_in [.long g0, .long g2, .long g4] μ K := Ct_of rfl (Nat.le_of_ble_eq_true rfl) (G_sub [0, 1, 2] rfl (b_X12_in_0 (fun c0 => by unfold e_X12_in at hK; rw [if_pos c0] at hK; exact hK) (fun c0 c1 => by unfold e_X12_in at hK; rw [if_neg c0, if_pos c1] at hK; exact hK) (fun c0 c1 => by unfold e_X12_in at hK; rw [if_neg c0, if_neg c1] at hK; exact hK)))
theorem d_X12_feed_0 : decode cX12_feed 0 = .ok (.iload_n 1, 1) := by decide +kernel
theorem d_X12_feed_1 : decode cX12_feed 1 = .ok (.i2l, 1) := by decide +kernel
theorem d_X12_feed_2 : decode cX12_feed 2 = .ok (.lconst 0, 1) := by decide +kernel
theorem d_X12_feed_3 : decode cX12_feed 3 = .ok (.ldc2_w 59, 3) := by decide +kernel
theorem d_X12_feed_6 : decode cX12_feed 6 = .ok (.invokestatic 61, 3) := by decide +kernel
theorem d_X12_feed_9 : decode cX12_feed 9 = .ok (.ifCond .ne 5, 3) := by decide +kernel
theorem d_X12_feed_12 : decode cX12_feed 12 = .ok (.iconst (-1), 1) := by decide +kernel
theorem d_X12_feed_13 : decode cX12_feed 13 = .ok (.ireturn, 1) := by decide +kernel
theorem d_X12_feed_14 : decode cX12_feed 14 = .ok (.aload_n 0, 1) := by decide +kernel
theorem d_X12_feed_15 : decode cX12_feed 15 = .ok (.getfield 65, 3) := by decide +kernel
theorem d_X12_feed_18 : decode cX12_feed 18 = .ok (.sipush 320, 3) := by decide +kernel
theorem d_X12_feed_21 : decode cX12_feed 21 = .ok (.if_icmp .ne 6, 3) := by decide +kernel
theorem d_X12_feed_24 : decode cX12_feed 24 = .ok (.bipush (-3), 2) := by decide +kernel
theorem d_X12_feed_26 : decode cX12_feed 26 = .ok (.ireturn, 1) := by decide +kernel
theorem d_X12_feed_27 : decode cX12_feed 27 = .ok (.aload_n 0, 1) := by decide +kernel
theorem d_X12_feed_28 : decode cX12_feed 28 = .ok (.getfield 19, 3) := by decide +kernel
theorem d_X12_feed_31 : decode cX12_feed 31 = .ok (.aload_n 0, 1) := by decide +kernel
theorem d_X12_feed_32 : decode cX12_feed 32 = .ok (.getfield 65, 3) := by decide +kernel
theorem d_X12_feed_35 : decode cX12_feed 35 = .ok (.iload_n 1, 1) := by decide +kernel
theorem d_X12_feed_36 : decode cX12_feed 36 = .ok (.iastore, 1) := by decide +kernel
theorem d_X12_feed_37 : decode cX12_feed 37 = .ok (.aload_n 0, 1) := by decide +kernel
theorem d_X12_feed_38 : decode cX12_feed 38 = .ok (.dup, 1) := by decide +kernel
theorem d_X12_feed_39 : decode cX12_feed 39 = .ok (.getfield 65, 3) := by decide +kernel
theorem d_X12_feed_42 : decode cX12_feed 42 = .ok (.iconst 1, 1) := by decide +kernel
theorem d_X12_feed_43 : decode cX12_feed 43 = .ok (.iadd, 1) := by decide +kernel
theorem d_X12_feed_44 : decode cX12_feed 44 = .ok (.putfield 65, 3) := by decide +kernel
theorem d_X12_feed_47 : decode cX12_feed 47 = .ok (.aload_n 0, 1) := by decide +kernel
theorem d_X12_feed_48 : decode cX12_feed 48 = .ok (.getfield 65, 3) := by decide +kernel
theorem d_X12_feed_51 : decode cX12_feed 51 = .ok (.ireturn, 1) := by decide +kernel
theorem b_X12_feed_0 {X : cX} {d : Nat} {μ : mM} {K : Option Value → mM → Prop} {r0 : Nat} {l1 : Int32} {j0 : Nat} (hw12_r0 : WF12 μ r0) (hi_j0 : ¬ (e_X12_in μ l1.toInt64 0 127) = 0 → ¬ (iv μ r0 6) = (320 : Int32) → iv μ r0 6 = nI j0) (hb : ¬ (e_X12_in μ l1.toInt64 0 127) = 0 → ¬ (iv μ r0 6) = (320 : Int32) → j0 < 320) (hK : ¬ (e_X12_in μ l1.toInt64 0 127) = 0 → ¬ (iv μ r0 6) = (320 : Int32) → K (some (.int (iv (wi (wi μ (r0 + 4) j0 l1) r0 6 ((iv (wi μ (r0 + 4) j0 l1) r0 6) + 1)) r0 6))) (wi (wi μ (r0 + 4) j0 l1) r0 6 ((iv (wi μ (r0 + 4) j0 l1) r0 6) + 1))) (hK_2 : ¬ (e_X12_in μ l1.toInt64 0 127) = 0 → (iv μ r0 6) = (320 : Int32) → K (some (.int (-3))) μ) (hK_3 : (e_X12_in μ l1.toInt64 0 127) = 0 → K (some (.int (-1))) μ) : G X (Rm (d + 1)) mX12_feed 0 [(0, .ref r0), (1, .int l1)] [] μ 0 0 K := by
  refine G_iload_n d_X12_feed_0 rfl 1 rfl ?_
  refine G_i2l (v := l1.toInt64) d_X12_feed_1 rfl ?_
  refine G_lconst (v := 0) d_X12_feed_2 rfl ?_
  refine G_ldc2 kl_X12_59 d_X12_feed_3 ?_
  refine G_callS (M' := mX12_in) (R' := (Rm d)) (S := []) [.long l1.toInt64, .long 0, .long 127] ok_X12_in ml_X12_61 pn_X12_in (ru_Rm (by decide)) (Nat.le_of_ble_eq_true rfl) d_X12_feed_6 (s_X12_in (μ := μ)   ?_)
  show G X (Rm (d + 1)) mX12_feed 9 [(0, .ref r0), (1, .int l1)] [.int (e_X12_in μ l1.toInt64 0 127)] μ 0 0 K
  refine G_if_ne (tgt := 14) d_X12_feed_9 rfl (fun c0 => ?_) (fun c0 => ?_)
  ·
    refine G_aload_n d_X12_feed_14 rfl 0 rfl ?_
    refine G_getI 12 6 (w12_kd hw12_r0) cok12 (by decide) rfl fl_X12_65 d_X12_feed_15 ?_
    refine G_sipush d_X12_feed_18 sp_320 ?_
    refine G_icmp_ne (tgt := 27) d_X12_feed_21 rfl (fun c1 => ?_) (fun c1 => ?_)
    ·
      refine G_aload_n d_X12_feed_27 rfl 0 rfl ?_
      refine G_getR (r := r0 + 4) 12 5 (w12_kd hw12_r0) (w12_f5 hw12_r0) cok12 (by decide) rfl fl_X12_19 d_X12_feed_28 ?_
      refine G_aload_n d_X12_feed_31 rfl 0 rfl ?_
      refine G_getI 12 6 (w12_kd hw12_r0) cok12 (by decide) rfl fl_X12_65 d_X12_feed_32 ?_
      refine G_iload_n d_X12_feed_35 rfl 1 rfl ?_
      refine G_iast j0 (w12_k5 hw12_r0) (hi_j0 c0 c1) (hb c0 c1) d_X12_feed_36 ?_
      refine G_aload_n d_X12_feed_37 rfl 0 rfl ?_
      refine G_dup d_X12_feed_38 rfl ?_
      refine G_getI 12 6 (w12_kd hw12_r0) cok12 (by decide) rfl fl_X12_65 d_X12_feed_39 ?_
      refine G_iconst d_X12_feed_42 ic_1 ?_
      refine G_iadd d_X12_feed_43 ?_
      refine G_putI 12 6 (w12_kd hw12_r0) rfl rfl cok12 (by decide) rfl (Or.inl rfl) fl_X12_65 d_X12_feed_44 ?_
      refine G_aload_n d_X12_feed_47 rfl 0 rfl ?_
      refine G_getI 12 6 (w12_kd hw12_r0) cok12 (by decide) rfl fl_X12_65 d_X12_feed_48 ?_
      exact G_iret rfl rfl rfl d_X12_feed_51 (hK c0 c1)
    ·
      refine G_bipush d_X12_feed_24 bp_m3 ?_
      exact G_iret rfl rfl rfl d_X12_feed_26 (hK_2 c0 c1)
  ·
    refine G_iconst d_X12_feed_12 ic_m1 ?_
    exact G_iret rfl rfl rfl d_X12_feed_13 (hK_3 c0)
theorem d_X12_end_0 : decode cX12_end 0 = .ok (.iload_n 1, 1) := by decide +kernel
theorem d_X12_end_1 : decode cX12_end 1 = .ok (.i2l, 1) := by decide +kernel
theorem d_X12_end_2 : decode cX12_end 2 = .ok (.lconst 0, 1) := by decide +kernel
theorem d_X12_end_3 : decode cX12_end 3 = .ok (.aload_n 0, 1) := by decide +kernel
theorem d_X12_end_4 : decode cX12_end 4 = .ok (.getfield 65, 3) := by decide +kernel
theorem d_X12_end_7 : decode cX12_end 7 = .ok (.i2l, 1) := by decide +kernel
theorem d_X12_end_8 : decode cX12_end 8 = .ok (.invokestatic 61, 3) := by decide +kernel
theorem d_X12_end_11 : decode cX12_end 11 = .ok (.ifCond .ne 5, 3) := by decide +kernel
theorem d_X12_end_14 : decode cX12_end 14 = .ok (.iconst (-1), 1) := by decide +kernel
theorem d_X12_end_15 : decode cX12_end 15 = .ok (.ireturn, 1) := by decide +kernel
theorem d_X12_end_16 : decode cX12_end 16 = .ok (.aload_n 0, 1) := by decide +kernel
theorem d_X12_end_17 : decode cX12_end 17 = .ok (.getfield 65, 3) := by decide +kernel
theorem d_X12_end_20 : decode cX12_end 20 = .ok (.istore_n 2, 1) := by decide +kernel
theorem d_X12_end_21 : decode cX12_end 21 = .ok (.aload_n 0, 1) := by decide +kernel
theorem d_X12_end_22 : decode cX12_end 22 = .ok (.iload_n 1, 1) := by decide +kernel
theorem d_X12_end_23 : decode cX12_end 23 = .ok (.putfield 65, 3) := by decide +kernel
theorem d_X12_end_26 : decode cX12_end 26 = .ok (.iload_n 2, 1) := by decide +kernel
theorem d_X12_end_27 : decode cX12_end 27 = .ok (.ireturn, 1) := by decide +kernel
theorem b_X12_end_0 {X : cX} {d : Nat} {μ : mM} {K : Option Value → mM → Prop} {r0 : Nat} {l1 : Int32} (hw12_r0 : WF12 μ r0) (hK : ¬ (e_X12_in μ l1.toInt64 0 ((iv μ r0 6).toInt64)) = 0 → K (some (.int (iv μ r0 6))) (wi μ r0 6 l1)) (hK_2 : (e_X12_in μ l1.toInt64 0 ((iv μ r0 6).toInt64)) = 0 → K (some (.int (-1))) μ) : G X (Rm (d + 1)) mX12_end 0 [(0, .ref r0), (1, .int l1)] [] μ 0 0 K := by
  refine G_iload_n d_X12_end_0 rfl 1 rfl ?_
  refine G_i2l (v := l1.toInt64) d_X12_end_1 rfl ?_
  refine G_lconst (v := 0) d_X12_end_2 rfl ?_
  refine G_aload_n d_X12_end_3 rfl 0 rfl ?_
  refine G_getI 12 6 (w12_kd hw12_r0) cok12 (by decide) rfl fl_X12_65 d_X12_end_4 ?_
  refine G_i2l (v := (iv μ r0 6).toInt64) d_X12_end_7 rfl ?_
  refine G_callS (M' := mX12_in) (R' := (Rm d)) (S := []) [.long l1.toInt64, .long 0, .long ((iv μ r0 6).toInt64)] ok_X12_in ml_X12_61 pn_X12_in (ru_Rm (by decide)) (Nat.le_of_ble_eq_true rfl) d_X12_end_8 (s_X12_in (μ := μ)   ?_)
  show G X (Rm (d + 1)) mX12_end 11 [(0, .ref r0), (1, .int l1)] [.int (e_X12_in μ l1.toInt64 0 ((iv μ r0 6).toInt64))] μ 0 0 K
  refine G_if_ne (tgt := 16) d_X12_end_11 rfl (fun c0 => ?_) (fun c0 => ?_)
  ·
    refine G_aload_n d_X12_end_16 rfl 0 rfl ?_
    refine G_getI 12 6 (w12_kd hw12_r0) cok12 (by decide) rfl fl_X12_65 d_X12_end_17 ?_
    refine G_istore_n (L' := [(2, .int (iv μ r0 6)), (0, .ref r0), (1, .int l1)]) d_X12_end_20 rfl (by decide) rfl ?_
    refine G_aload_n d_X12_end_21 rfl 1 rfl ?_
    refine G_iload_n d_X12_end_22 rfl 2 rfl ?_
    refine G_putI 12 6 (w12_kd hw12_r0) rfl rfl cok12 (by decide) rfl (Or.inl rfl) fl_X12_65 d_X12_end_23 ?_
    refine G_iload_n d_X12_end_26 rfl 0 rfl ?_
    exact G_iret rfl rfl rfl d_X12_end_27 (hK c0)
  ·
    refine G_iconst d_X12_end_14 ic_m1 ?_
    exact G_iret rfl rfl rfl d_X12_end_15 (hK_2 c0)
theorem d_X12_byteAt_0 : decode cX12_byteAt 0 = .ok (.iload_n 1, 1) := by decide +kernel
theorem d_X12_byteAt_1 : decode cX12_byteAt 1 = .ok (.aload_n 0, 1) := by decide +kernel
theorem d_X12_byteAt_2 : decode cX12_byteAt 2 = .ok (.getfield 65, 3) := by decide +kernel
theorem d_X12_byteAt_5 : decode cX12_byteAt 5 = .ok (.if_icmp .ge 12, 3) := by decide +kernel
theorem d_X12_byteAt_8 : decode cX12_byteAt 8 = .ok (.aload_n 0, 1) := by decide +kernel
theorem d_X12_byteAt_9 : decode cX12_byteAt 9 = .ok (.getfield 19, 3) := by decide +kernel
theorem d_X12_byteAt_12 : decode cX12_byteAt 12 = .ok (.iload_n 1, 1) := by decide +kernel
theorem d_X12_byteAt_13 : decode cX12_byteAt 13 = .ok (.iaload, 1) := by decide +kernel
theorem d_X12_byteAt_14 : decode cX12_byteAt 14 = .ok (.goto 5, 3) := by decide +kernel
theorem d_X12_byteAt_17 : decode cX12_byteAt 17 = .ok (.bipush (-4), 2) := by decide +kernel
theorem d_X12_byteAt_19 : decode cX12_byteAt 19 = .ok (.ireturn, 1) := by decide +kernel
theorem b_X12_byteAt_0 {X : cX} {d : Nat} {μ : mM} {K : Option Value → mM → Prop} {r0 : Nat} {i1 : Nat} (hw12_r0 : WF12 μ r0) (hK : (iv μ r0 6) ≤ (nI i1) → K (some (.int (-4))) μ) (hb : ¬ (iv μ r0 6) ≤ (nI i1) → i1 < 320) (hK_2 : ¬ (iv μ r0 6) ≤ (nI i1) → K (some (.int (iv μ (r0 + 4) i1))) μ) : G X (Rm d) mX12_byteAt 0 [(0, .ref r0), (1, .int (nI i1))] [] μ 0 0 K := by
  refine G_iload_n d_X12_byteAt_0 rfl 1 rfl ?_
  refine G_aload_n d_X12_byteAt_1 rfl 0 rfl ?_
  refine G_getI 12 6 (w12_kd hw12_r0) cok12 (by decide) rfl fl_X12_65 d_X12_byteAt_2 ?_
  refine G_icmp_ge (tgt := 17) d_X12_byteAt_5 rfl (fun c0 => ?_) (fun c0 => ?_)
  ·
    refine G_bipush d_X12_byteAt_17 bp_m4 ?_
    exact G_iret rfl rfl rfl d_X12_byteAt_19 (hK c0)
  ·
    refine G_aload_n d_X12_byteAt_8 rfl 0 rfl ?_
    refine G_getR (r := r0 + 4) 12 5 (w12_kd hw12_r0) (w12_f5 hw12_r0) cok12 (by decide) rfl fl_X12_19 d_X12_byteAt_9 ?_
    refine G_iload_n d_X12_byteAt_12 rfl 1 rfl ?_
    refine G_iald i1 (w12_k5 hw12_r0) rfl (hb c0) d_X12_byteAt_13 ?_
    refine G_goto (tgt := 19) d_X12_byteAt_14 rfl ?_
    exact G_iret rfl rfl rfl d_X12_byteAt_19 (hK_2 c0)
def e_X12_byteAt (μ : mM) (r0 : Nat) (i1 : Nat) : Int32 := (if (iv μ r0 6) ≤ (nI i1) then (-4) else (iv μ (r0 + 4) i1))
theorem s_X12_byteAt {X : cX} {d : Nat} {μ : mM} {K : Option Value → mM → Prop} {r0 : Nat} {i1 : Nat} (hw12_r0 : WF12 μ r0) (hb : ¬ (iv μ r0 6) ≤ (nI i1) → i1 < 320) (hK : K (some (.int (e_X12_byteAt μ r0 i1))) μ) : Ct X (Rm d) mX12_byteAt [.ref r0, .int (nI i1)] μ K := Ct_of rfl (Nat.le_of_ble_eq_true rfl) (G_sub [0, 1] rfl (b_X12_byteAt_0 hw12_r0 (fun c0 => by unfold e_X12_byteAt at hK; rw [if_pos c0] at hK; exact hK) hb (fun c0 => by unfold e_X12_byteAt at hK; rw [if_neg c0] at hK; exact hK)))
theorem d_X12_fails_0 : decode cX12_fails 0 = .ok (.aload_n 0, 1) := by decide +kernel
theorem d_X12_fails_1 : decode cX12_fails 1 = .ok (.getfield 69, 3) := by decide +kernel
theorem d_X12_fails_4 : decode cX12_fails 4 = .ok (.ifCond .ne 16, 3) := by decide +kernel
theorem d_X12_fails_7 : decode cX12_fails 7 = .ok (.aload_n 0, 1) := by decide +kernel
theorem d_X12_fails_8 : decode cX12_fails 8 = .ok (.iload_n 1, 1) := by decide +kernel
theorem d_X12_fails_9 : decode cX12_fails 9 = .ok (.putfield 69, 3) := by decide +kernel
theorem d_X12_fails_12 : decode cX12_fails 12 = .ok (.aload_n 0, 1) := by decide +kernel
theorem d_X12_fails_13 : decode cX12_fails 13 = .ok (.aload_n 0, 1) := by decide +kernel
theorem d_X12_fails_14 : decode cX12_fails 14 = .ok (.getfield 72, 3) := by decide +kernel
theorem d_X12_fails_17 : decode cX12_fails 17 = .ok (.putfield 75, 3) := by decide +kernel
theorem d_X12_fails_20 : decode cX12_fails 20 = .ok (.return_, 1) := by decide +kernel
theorem b_X12_fails_0 {X : cX} {d : Nat} {μ : mM} {K : Option Value → mM → Prop} {r0 : Nat} {l1 : Int32} (hw12_r0 : WF12 μ r0) (hK : ¬ (iv μ r0 8) = 0 → K none μ) (hK_2 : (iv μ r0 8) = 0 → K none (wi (wi μ r0 8 l1) r0 9 (iv (wi μ r0 8 l1) r0 11))) : G X (Rm d) mX12_fails 0 [(0, .ref r0), (1, .int l1)] [] μ 0 0 K := by
  refine G_aload_n d_X12_fails_0 rfl 0 rfl ?_
  refine G_getI 12 8 (w12_kd hw12_r0) cok12 (by decide) rfl fl_X12_69 d_X12_fails_1 ?_
  refine G_if_ne (tgt := 20) d_X12_fails_4 rfl (fun c0 => ?_) (fun c0 => ?_)
  ·
    exact G_vret rfl rfl rfl d_X12_fails_20 (hK c0)
  ·
    refine G_aload_n d_X12_fails_7 rfl 0 rfl ?_
    refine G_iload_n d_X12_fails_8 rfl 1 rfl ?_
    refine G_putI 12 8 (w12_kd hw12_r0) rfl rfl cok12 (by decide) rfl (Or.inl rfl) fl_X12_69 d_X12_fails_9 ?_
    refine G_aload_n d_X12_fails_12 rfl 0 rfl ?_
    refine G_aload_n d_X12_fails_13 rfl 0 rfl ?_
    refine G_getI 12 11 (w12_kd hw12_r0) cok12 (by decide) rfl fl_X12_72 d_X12_fails_14 ?_
    refine G_putI 12 9 (w12_kd hw12_r0) rfl rfl cok12 (by decide) rfl (Or.inl rfl) fl_X12_75 d_X12_fails_17 ?_
    exact G_vret rfl rfl rfl d_X12_fails_20 (hK_2 c0)
theorem d_X12_nameHere_0 : decode cX12_nameHere 0 = .ok (.iconst 0, 1) := by decide +kernel
theorem d_X12_nameHere_1 : decode cX12_nameHere 1 = .ok (.istore_n 1, 1) := by decide +kernel
theorem d_X12_nameHere_2 : decode cX12_nameHere 2 = .ok (.iload_n 1, 1) := by decide +kernel
theorem d_X12_nameHere_3 : decode cX12_nameHere 3 = .ok (.bipush 13, 2) := by decide +kernel
theorem d_X12_nameHere_5 : decode cX12_nameHere 5 = .ok (.if_icmp .ge 113, 3) := by decide +kernel
theorem d_X12_nameHere_8 : decode cX12_nameHere 8 = .ok (.aload_n 0, 1) := by decide +kernel
theorem d_X12_nameHere_9 : decode cX12_nameHere 9 = .ok (.getfield 78, 3) := by decide +kernel
theorem d_X12_nameHere_12 : decode cX12_nameHere 12 = .ok (.iconst 1, 1) := by decide +kernel
theorem d_X12_nameHere_13 : decode cX12_nameHere 13 = .ok (.if_icmp .ne 105, 3) := by decide +kernel
theorem d_X12_nameHere_16 : decode cX12_nameHere 16 = .ok (.aload_n 0, 1) := by decide +kernel
theorem d_X12_nameHere_17 : decode cX12_nameHere 17 = .ok (.getfield 81, 3) := by decide +kernel
theorem d_X12_nameHere_20 : decode cX12_nameHere 20 = .ok (.aload_n 0, 1) := by decide +kernel
theorem d_X12_nameHere_21 : decode cX12_nameHere 21 = .ok (.getfield 72, 3) := by decide +kernel
theorem d_X12_nameHere_24 : decode cX12_nameHere 24 = .ok (.isub, 1) := by decide +kernel
theorem d_X12_nameHere_25 : decode cX12_nameHere 25 = .ok (.aload_n 0, 1) := by decide +kernel
theorem d_X12_nameHere_26 : decode cX12_nameHere 26 = .ok (.getfield 22, 3) := by decide +kernel
theorem d_X12_nameHere_29 : decode cX12_nameHere 29 = .ok (.iload_n 1, 1) := by decide +kernel
theorem d_X12_nameHere_30 : decode cX12_nameHere 30 = .ok (.iconst 1, 1) := by decide +kernel
theorem d_X12_nameHere_31 : decode cX12_nameHere 31 = .ok (.iadd, 1) := by decide +kernel
theorem d_X12_nameHere_32 : decode cX12_nameHere 32 = .ok (.iaload, 1) := by decide +kernel
theorem d_X12_nameHere_33 : decode cX12_nameHere 33 = .ok (.aload_n 0, 1) := by decide +kernel
theorem d_X12_nameHere_34 : decode cX12_nameHere 34 = .ok (.getfield 22, 3) := by decide +kernel
theorem d_X12_nameHere_37 : decode cX12_nameHere 37 = .ok (.iload_n 1, 1) := by decide +kernel
theorem d_X12_nameHere_38 : decode cX12_nameHere 38 = .ok (.iaload, 1) := by decide +kernel
theorem d_X12_nameHere_39 : decode cX12_nameHere 39 = .ok (.isub, 1) := by decide +kernel
theorem d_X12_nameHere_40 : decode cX12_nameHere 40 = .ok (.if_icmp .ne 7, 3) := by decide +kernel
theorem d_X12_nameHere_43 : decode cX12_nameHere 43 = .ok (.iconst 1, 1) := by decide +kernel
theorem d_X12_nameHere_44 : decode cX12_nameHere 44 = .ok (.goto 4, 3) := by decide +kernel
theorem d_X12_nameHere_47 : decode cX12_nameHere 47 = .ok (.iconst 0, 1) := by decide +kernel
theorem d_X12_nameHere_48 : decode cX12_nameHere 48 = .ok (.istore_n 2, 1) := by decide +kernel
theorem d_X12_nameHere_49 : decode cX12_nameHere 49 = .ok (.iconst 0, 1) := by decide +kernel
theorem d_X12_nameHere_50 : decode cX12_nameHere 50 = .ok (.istore_n 3, 1) := by decide +kernel
theorem d_X12_nameHere_51 : decode cX12_nameHere 51 = .ok (.iload_n 2, 1) := by decide +kernel
theorem d_X12_nameHere_52 : decode cX12_nameHere 52 = .ok (.ifCond .eq 54, 3) := by decide +kernel
theorem d_X12_nameHere_55 : decode cX12_nameHere 55 = .ok (.iload_n 3, 1) := by decide +kernel
theorem d_X12_nameHere_56 : decode cX12_nameHere 56 = .ok (.aload_n 0, 1) := by decide +kernel
theorem d_X12_nameHere_57 : decode cX12_nameHere 57 = .ok (.getfield 81, 3) := by decide +kernel
theorem d_X12_nameHere_60 : decode cX12_nameHere 60 = .ok (.aload_n 0, 1) := by decide +kernel
theorem d_X12_nameHere_61 : decode cX12_nameHere 61 = .ok (.getfield 72, 3) := by decide +kernel
theorem d_X12_nameHere_64 : decode cX12_nameHere 64 = .ok (.isub, 1) := by decide +kernel
theorem d_X12_nameHere_65 : decode cX12_nameHere 65 = .ok (.if_icmp .ge 41, 3) := by decide +kernel
theorem d_X12_nameHere_68 : decode cX12_nameHere 68 = .ok (.aload_n 0, 1) := by decide +kernel
theorem d_X12_nameHere_69 : decode cX12_nameHere 69 = .ok (.aload_n 0, 1) := by decide +kernel
theorem d_X12_nameHere_70 : decode cX12_nameHere 70 = .ok (.getfield 72, 3) := by decide +kernel
theorem d_X12_nameHere_73 : decode cX12_nameHere 73 = .ok (.iload_n 3, 1) := by decide +kernel
theorem d_X12_nameHere_74 : decode cX12_nameHere 74 = .ok (.iadd, 1) := by decide +kernel
theorem d_X12_nameHere_75 : decode cX12_nameHere 75 = .ok (.invokevirtual 84, 3) := by decide +kernel
theorem d_X12_nameHere_78 : decode cX12_nameHere 78 = .ok (.aload_n 0, 1) := by decide +kernel
theorem d_X12_nameHere_79 : decode cX12_nameHere 79 = .ok (.getfield 25, 3) := by decide +kernel
theorem d_X12_nameHere_82 : decode cX12_nameHere 82 = .ok (.aload_n 0, 1) := by decide +kernel
theorem d_X12_nameHere_83 : decode cX12_nameHere 83 = .ok (.getfield 22, 3) := by decide +kernel
theorem d_X12_nameHere_86 : decode cX12_nameHere 86 = .ok (.iload_n 1, 1) := by decide +kernel
theorem d_X12_nameHere_87 : decode cX12_nameHere 87 = .ok (.iaload, 1) := by decide +kernel
theorem d_X12_nameHere_88 : decode cX12_nameHere 88 = .ok (.iload_n 3, 1) := by decide +kernel
theorem d_X12_nameHere_89 : decode cX12_nameHere 89 = .ok (.iadd, 1) := by decide +kernel
theorem d_X12_nameHere_90 : decode cX12_nameHere 90 = .ok (.iaload, 1) := by decide +kernel
theorem d_X12_nameHere_91 : decode cX12_nameHere 91 = .ok (.if_icmp .ne 7, 3) := by decide +kernel
theorem d_X12_nameHere_94 : decode cX12_nameHere 94 = .ok (.iconst 1, 1) := by decide +kernel
theorem d_X12_nameHere_95 : decode cX12_nameHere 95 = .ok (.goto 4, 3) := by decide +kernel
theorem d_X12_nameHere_98 : decode cX12_nameHere 98 = .ok (.iconst 0, 1) := by decide +kernel
theorem d_X12_nameHere_99 : decode cX12_nameHere 99 = .ok (.istore_n 2, 1) := by decide +kernel
theorem d_X12_nameHere_100 : decode cX12_nameHere 100 = .ok (.iinc 3 1, 3) := by decide +kernel
theorem d_X12_nameHere_103 : decode cX12_nameHere 103 = .ok (.goto (-52), 3) := by decide +kernel
theorem d_X12_nameHere_106 : decode cX12_nameHere 106 = .ok (.iload_n 2, 1) := by decide +kernel
theorem d_X12_nameHere_107 : decode cX12_nameHere 107 = .ok (.ifCond .eq 5, 3) := by decide +kernel
theorem d_X12_nameHere_110 : decode cX12_nameHere 110 = .ok (.iload_n 1, 1) := by decide +kernel
theorem d_X12_nameHere_111 : decode cX12_nameHere 111 = .ok (.ireturn, 1) := by decide +kernel
theorem d_X12_nameHere_112 : decode cX12_nameHere 112 = .ok (.iinc 1 1, 3) := by decide +kernel
theorem d_X12_nameHere_115 : decode cX12_nameHere 115 = .ok (.goto (-113), 3) := by decide +kernel
theorem d_X12_nameHere_118 : decode cX12_nameHere 118 = .ok (.bipush (-4), 2) := by decide +kernel
theorem d_X12_nameHere_120 : decode cX12_nameHere 120 = .ok (.ireturn, 1) := by decide +kernel
theorem b_X12_nameHere_0 {X : cX} {d : Nat} {μ : mM} {K : Option Value → mM → Prop} {r0 : Nat} (h : G X (Rm (d + 1)) mX12_nameHere 2 [(0, .ref r0), (1, .int (nI 0))] [] μ 0 0 K) : G X (Rm (d + 1)) mX12_nameHere 0 [(0, .ref r0)] [] μ 0 0 K := by
  refine G_iconst d_X12_nameHere_0 ic_0 ?_
  refine G_istore_n (L' := [(1, .int (nI 0)), (0, .ref r0)]) d_X12_nameHere_1 rfl (by decide) rfl ?_
  refine G_sub (L' := [(0, .ref r0), (1, .int (nI 0))]) [1, 0] rfl ?_
  exact h
theorem b_X12_nameHere_2 {X : cX} {d : Nat} {μ : mM} {K : Option Value → mM → Prop} {r0 : Nat} {i1 : Nat} (hK : (13 : Int32) ≤ (nI i1) → K (some (.int (-4))) μ) (hw12_r0 : WF12 μ r0) (hK_2 : ¬ (13 : Int32) ≤ (nI i1) → ¬ (iv μ r0 12) = (1 : Int32) → K (some (.int (-4))) μ) (hb : ¬ (13 : Int32) ≤ (nI i1) → (iv μ r0 12) = (1 : Int32) → (i1 + 1) < 14) (hb_2 : ¬ (13 : Int32) ≤ (nI i1) → (iv μ r0 12) = (1 : Int32) → i1 < 14) (h : ¬ (13 : Int32) ≤ (nI i1) → (iv μ r0 12) = (1 : Int32) → ¬ ((iv μ r0 10) - (iv μ r0 11)) = ((iv μ (r0 + 5) (i1 + 1)) - (iv μ (r0 + 5) i1)) → G X (Rm (d + 1)) mX12_nameHere 48 [(0, .ref r0), (1, .int (nI i1))] [.int 0] μ 0 0 K) (h_2 : ¬ (13 : Int32) ≤ (nI i1) → (iv μ r0 12) = (1 : Int32) → ((iv μ r0 10) - (iv μ r0 11)) = ((iv μ (r0 + 5) (i1 + 1)) - (iv μ (r0 + 5) i1)) → G X (Rm (d + 1)) mX12_nameHere 48 [(0, .ref r0), (1, .int (nI i1))] [.int 1] μ 0 0 K) : G X (Rm (d + 1)) mX12_nameHere 2 [(0, .ref r0), (1, .int (nI i1))] [] μ 0 0 K := by
  refine G_iload_n d_X12_nameHere_2 rfl 1 rfl ?_
  refine G_bipush d_X12_nameHere_3 bp_13 ?_
  refine G_icmp_ge (tgt := 118) d_X12_nameHere_5 rfl (fun c0 => ?_) (fun c0 => ?_)
  ·
    refine G_bipush d_X12_nameHere_118 bp_m4 ?_
    exact G_iret rfl rfl rfl d_X12_nameHere_120 (hK c0)
  ·
    refine G_aload_n d_X12_nameHere_8 rfl 0 rfl ?_
    refine G_getI 12 12 (w12_kd hw12_r0) cok12 (by decide) rfl fl_X12_78 d_X12_nameHere_9 ?_
    refine G_iconst d_X12_nameHere_12 ic_1 ?_
    refine G_icmp_ne (tgt := 118) d_X12_nameHere_13 rfl (fun c1 => ?_) (fun c1 => ?_)
    ·
      refine G_bipush d_X12_nameHere_118 bp_m4 ?_
      exact G_iret rfl rfl rfl d_X12_nameHere_120 (hK_2 c0 c1)
    ·
      refine G_aload_n d_X12_nameHere_16 rfl 0 rfl ?_
      refine G_getI 12 10 (w12_kd hw12_r0) cok12 (by decide) rfl fl_X12_81 d_X12_nameHere_17 ?_
      refine G_aload_n d_X12_nameHere_20 rfl 0 rfl ?_
      refine G_getI 12 11 (w12_kd hw12_r0) cok12 (by decide) rfl fl_X12_72 d_X12_nameHere_21 ?_
      refine G_isub d_X12_nameHere_24 ?_
      refine G_aload_n d_X12_nameHere_25 rfl 0 rfl ?_
      refine G_getR (r := r0 + 5) 12 15 (w12_kd hw12_r0) (w12_f15 hw12_r0) cok12 (by decide) rfl fl_X12_22 d_X12_nameHere_26 ?_
      refine G_iload_n d_X12_nameHere_29 rfl 1 rfl ?_
      refine G_iconst d_X12_nameHere_30 ic_1 ?_
      refine G_iadd d_X12_nameHere_31 ?_
      refine G_iald (i1 + 1) (w12_k15 hw12_r0) (nadd rfl rfl) (hb c0 c1) d_X12_nameHere_32 ?_
      refine G_aload_n d_X12_nameHere_33 rfl 0 rfl ?_
      refine G_getR (r := r0 + 5) 12 15 (w12_kd hw12_r0) (w12_f15 hw12_r0) cok12 (by decide) rfl fl_X12_22 d_X12_nameHere_34 ?_
      refine G_iload_n d_X12_nameHere_37 rfl 1 rfl ?_
      refine G_iald i1 (w12_k15 hw12_r0) rfl (hb_2 c0 c1) d_X12_nameHere_38 ?_
      refine G_isub d_X12_nameHere_39 ?_
      refine G_icmp_ne (tgt := 47) d_X12_nameHere_40 rfl (fun c2 => ?_) (fun c2 => ?_)
      ·
        refine G_iconst d_X12_nameHere_47 ic_0 ?_
        exact (h c0 c1 c2)
      ·
        refine G_iconst d_X12_nameHere_43 ic_1 ?_
        refine G_goto (tgt := 48) d_X12_nameHere_44 rfl ?_
        exact (h_2 c0 c1 c2)
theorem b_X12_nameHere_48 {X : cX} {d : Nat} {μ : mM} {K : Option Value → mM → Prop} {r0 : Nat} {l1 : Int32} {v0 : Int32} (h : G X (Rm (d + 1)) mX12_nameHere 51 [(0, .ref r0), (1, .int l1), (2, .int v0), (3, .int (nI 0))] [] μ 0 0 K) : G X (Rm (d + 1)) mX12_nameHere 48 [(0, .ref r0), (1, .int l1)] [.int v0] μ 0 0 K := by
  refine G_istore_n (L' := [(2, .int v0), (0, .ref r0), (1, .int l1)]) d_X12_nameHere_48 rfl (by decide) rfl ?_
  refine G_iconst d_X12_nameHere_49 ic_0 ?_
  refine G_istore_n (L' := [(3, .int (nI 0)), (2, .int v0), (0, .ref r0), (1, .int l1)]) d_X12_nameHere_50 rfl (by decide) rfl ?_
  refine G_sub (L' := [(0, .ref r0), (1, .int l1), (2, .int v0), (3, .int (nI 0))]) [2, 3, 1, 0] rfl ?_
  exact h
theorem b_X12_nameHere_51 {X : cX} {d : Nat} {μ : mM} {K : Option Value → mM → Prop} {r0 : Nat} {i1 : Nat} {l2 : Int32} {i3 : Nat} {j0 : Nat} {j1 : Nat} (h : l2 = 0 → G X (Rm (d + 1)) mX12_nameHere 106 [(0, .ref r0), (1, .int (nI i1)), (2, .int l2)] [] μ 0 0 K) (hw12_r0 : WF12 μ r0) (h_2 : ¬ l2 = 0 → ((iv μ r0 10) - (iv μ r0 11)) ≤ (nI i3) → G X (Rm (d + 1)) mX12_nameHere 106 [(0, .ref r0), (1, .int (nI i1)), (2, .int l2)] [] μ 0 0 K) (hi_j0 : ¬ l2 = 0 → ¬ ((iv μ r0 10) - (iv μ r0 11)) ≤ (nI i3) → (iv μ r0 11) + (nI i3) = nI j0) (hs : ¬ l2 = 0 → ¬ ((iv μ r0 10) - (iv μ r0 11)) ≤ (nI i3) → (¬ (iv μ r0 6) ≤ (nI j0) → j0 < 320)) (hb : ¬ l2 = 0 → ¬ ((iv μ r0 10) - (iv μ r0 11)) ≤ (nI i3) → i1 < 14) (hi_j1 : ¬ l2 = 0 → ¬ ((iv μ r0 10) - (iv μ r0 11)) ≤ (nI i3) → (iv μ (r0 + 5) i1) + (nI i3) = nI j1) (hb_2 : ¬ l2 = 0 → ¬ ((iv μ r0 10) - (iv μ r0 11)) ≤ (nI i3) → j1 < 46) (h_3 : ¬ l2 = 0 → ¬ ((iv μ r0 10) - (iv μ r0 11)) ≤ (nI i3) → ¬ (e_X12_byteAt μ r0 j0) = (iv μ (r0 + 6) j1) → G X (Rm (d + 1)) mX12_nameHere 99 [(0, .ref r0), (1, .int (nI i1)), (3, .int (nI i3))] [.int 0] μ 0 0 K) (h_4 : ¬ l2 = 0 → ¬ ((iv μ r0 10) - (iv μ r0 11)) ≤ (nI i3) → (e_X12_byteAt μ r0 j0) = (iv μ (r0 + 6) j1) → G X (Rm (d + 1)) mX12_nameHere 99 [(0, .ref r0), (1, .int (nI i1)), (3, .int (nI i3))] [.int 1] μ 0 0 K) : G X (Rm (d + 1)) mX12_nameHere 51 [(0, .ref r0), (1, .int (nI i1)), (2, .int l2), (3, .int (nI i3))] [] μ 0 0 K := by
  refine G_iload_n d_X12_nameHere_51 rfl 2 rfl ?_
  refine G_if_eq (tgt := 106) d_X12_nameHere_52 rfl (fun c0 => ?_) (fun c0 => ?_)
  ·
    refine G_sub (L' := [(0, .ref r0), (1, .int (nI i1)), (2, .int l2)]) [0, 1, 2] rfl ?_
    exact (h c0)
  ·
    refine G_iload_n d_X12_nameHere_55 rfl 3 rfl ?_
    refine G_aload_n d_X12_nameHere_56 rfl 0 rfl ?_
    refine G_getI 12 10 (w12_kd hw12_r0) cok12 (by decide) rfl fl_X12_81 d_X12_nameHere_57 ?_
    refine G_aload_n d_X12_nameHere_60 rfl 0 rfl ?_
    refine G_getI 12 11 (w12_kd hw12_r0) cok12 (by decide) rfl fl_X12_72 d_X12_nameHere_61 ?_
    refine G_isub d_X12_nameHere_64 ?_
    refine G_icmp_ge (tgt := 106) d_X12_nameHere_65 rfl (fun c1 => ?_) (fun c1 => ?_)
    ·
      refine G_sub (L' := [(0, .ref r0), (1, .int (nI i1)), (2, .int l2)]) [0, 1, 2] rfl ?_
      exact (h_2 c0 c1)
    ·
      refine G_aload_n d_X12_nameHere_68 rfl 0 rfl ?_
      refine G_aload_n d_X12_nameHere_69 rfl 0 rfl ?_
      refine G_getI 12 11 (w12_kd hw12_r0) cok12 (by decide) rfl fl_X12_72 d_X12_nameHere_70 ?_
      refine G_iload_n d_X12_nameHere_73 rfl 3 rfl ?_
      refine G_iadd d_X12_nameHere_74 ?_
      refine G_stk (S' := [.int (nI j0), .ref r0]) (by rw [(hi_j0 c0 c1)]) ?_
      refine G_callV (M' := mX12_byteAt) (R' := (Rm d)) (S := []) [.int (nI j0)] 12 (w12_kd hw12_r0) cok12 rfl ok_X12_byteAt ml_X12_84 pn_X12_byteAt (ru_Rm (by decide)) (Nat.le_of_ble_eq_true rfl) d_X12_nameHere_75 (s_X12_byteAt (μ := μ) (i1 := j0) hw12_r0 (hs c0 c1) ?_)
      show G X (Rm (d + 1)) mX12_nameHere 78 [(0, .ref r0), (1, .int (nI i1)), (2, .int l2), (3, .int (nI i3))] [.int (e_X12_byteAt μ r0 j0)] μ 0 0 K
      refine G_aload_n d_X12_nameHere_78 rfl 0 rfl ?_
      refine G_getR (r := r0 + 6) 12 16 (w12_kd hw12_r0) (w12_f16 hw12_r0) cok12 (by decide) rfl fl_X12_25 d_X12_nameHere_79 ?_
      refine G_aload_n d_X12_nameHere_82 rfl 0 rfl ?_
      refine G_getR (r := r0 + 5) 12 15 (w12_kd hw12_r0) (w12_f15 hw12_r0) cok12 (by decide) rfl fl_X12_22 d_X12_nameHere_83 ?_
      refine G_iload_n d_X12_nameHere_86 rfl 1 rfl ?_
      refine G_iald i1 (w12_k15 hw12_r0) rfl (hb c0 c1) d_X12_nameHere_87 ?_
      refine G_iload_n d_X12_nameHere_88 rfl 3 rfl ?_
      refine G_iadd d_X12_nameHere_89 ?_
      refine G_iald j1 (w12_k16 hw12_r0) (hi_j1 c0 c1) (hb_2 c0 c1) d_X12_nameHere_90 ?_
      refine G_icmp_ne (tgt := 98) d_X12_nameHere_91 rfl (fun c2 => ?_) (fun c2 => ?_)
      ·
        refine G_iconst d_X12_nameHere_98 ic_0 ?_
        refine G_sub (L' := [(0, .ref r0), (1, .int (nI i1)), (3, .int (nI i3))]) [0, 1, 3] rfl ?_
        exact (h_3 c0 c1 c2)
      ·
        refine G_iconst d_X12_nameHere_94 ic_1 ?_
        refine G_goto (tgt := 99) d_X12_nameHere_95 rfl ?_
        refine G_sub (L' := [(0, .ref r0), (1, .int (nI i1)), (3, .int (nI i3))]) [0, 1, 3] rfl ?_
        exact (h_4 c0 c1 c2)
theorem b_X12_nameHere_99 {X : cX} {d : Nat} {μ : mM} {K : Option Value → mM → Prop} {r0 : Nat} {l1 : Int32} {i3 : Nat} {v0 : Int32} (h : G X (Rm (d + 1)) mX12_nameHere 51 [(0, .ref r0), (1, .int l1), (2, .int v0), (3, .int (nI (i3 + 1)))] [] μ 0 0 K) : G X (Rm (d + 1)) mX12_nameHere 99 [(0, .ref r0), (1, .int l1), (3, .int (nI i3))] [.int v0] μ 0 0 K := by
  refine G_istore_n (L' := [(2, .int v0), (0, .ref r0), (1, .int l1), (3, .int (nI i3))]) d_X12_nameHere_99 rfl (by decide) rfl ?_
  refine G_iinc (L' := [(3, .int (nI (i3 + 1))), (2, .int v0), (0, .ref r0), (1, .int l1)]) d_X12_nameHere_100 3 rfl (inc1 i3) (by decide) rfl ?_
  refine G_goto (tgt := 51) d_X12_nameHere_103 rfl ?_
  refine G_sub (L' := [(0, .ref r0), (1, .int l1), (2, .int v0), (3, .int (nI (i3 + 1)))]) [2, 3, 1, 0] rfl ?_
  exact h
theorem b_X12_nameHere_106 {X : cX} {d : Nat} {μ : mM} {K : Option Value → mM → Prop} {r0 : Nat} {i1 : Nat} {l2 : Int32} (h : l2 = 0 → G X (Rm (d + 1)) mX12_nameHere 2 [(0, .ref r0), (1, .int (nI (i1 + 1)))] [] μ 0 0 K) (hK : ¬ l2 = 0 → K (some (.int (nI i1))) μ) : G X (Rm (d + 1)) mX12_nameHere 106 [(0, .ref r0), (1, .int (nI i1)), (2, .int l2)] [] μ 0 0 K := by
  refine G_iload_n d_X12_nameHere_106 rfl 2 rfl ?_
  refine G_if_eq (tgt := 112) d_X12_nameHere_107 rfl (fun c0 => ?_) (fun c0 => ?_)
  ·
    refine G_iinc (L' := [(1, .int (nI (i1 + 1))), (0, .ref r0), (2, .int l2)]) d_X12_nameHere_112 1 rfl (inc1 i1) (by decide) rfl ?_
    refine G_goto (tgt := 2) d_X12_nameHere_115 rfl ?_
    refine G_sub (L' := [(0, .ref r0), (1, .int (nI (i1 + 1)))]) [1, 0] rfl ?_
    exact (h c0)
  ·
    refine G_iload_n d_X12_nameHere_110 rfl 1 rfl ?_
    exact G_iret rfl rfl rfl d_X12_nameHere_111 (hK c0)
theorem d_X12_readsOn_0 : decode cX12_readsOn 0 = .ok (.aload_n 0, 1) := by decide +kernel
theorem d_X12_readsOn_1 : decode cX12_readsOn 1 = .ok (.getfield 69, 3) := by decide +kernel
theorem d_X12_readsOn_4 : decode cX12_readsOn 4 = .ok (.ifCond .le 4, 3) := by decide +kernel
theorem d_X12_readsOn_7 : decode cX12_readsOn 7 = .ok (.return_, 1) := by decide +kernel
theorem d_X12_readsOn_8 : decode cX12_readsOn 8 = .ok (.aload_n 0, 1) := by decide +kernel
theorem d_X12_readsOn_9 : decode cX12_readsOn 9 = .ok (.aload_n 0, 1) := by decide +kernel
theorem d_X12_readsOn_10 : decode cX12_readsOn 10 = .ok (.getfield 81, 3) := by decide +kernel
theorem d_X12_readsOn_13 : decode cX12_readsOn 13 = .ok (.invokevirtual 84, 3) := by decide +kernel
theorem d_X12_readsOn_16 : decode cX12_readsOn 16 = .ok (.bipush 32, 2) := by decide +kernel
theorem d_X12_readsOn_18 : decode cX12_readsOn 18 = .ok (.if_icmp .ne 16, 3) := by decide +kernel
theorem d_X12_readsOn_21 : decode cX12_readsOn 21 = .ok (.aload_n 0, 1) := by decide +kernel
theorem d_X12_readsOn_22 : decode cX12_readsOn 22 = .ok (.dup, 1) := by decide +kernel
theorem d_X12_readsOn_23 : decode cX12_readsOn 23 = .ok (.getfield 81, 3) := by decide +kernel
theorem d_X12_readsOn_26 : decode cX12_readsOn 26 = .ok (.iconst 1, 1) := by decide +kernel
theorem d_X12_readsOn_27 : decode cX12_readsOn 27 = .ok (.iadd, 1) := by decide +kernel
theorem d_X12_readsOn_28 : decode cX12_readsOn 28 = .ok (.putfield 81, 3) := by decide +kernel
theorem d_X12_readsOn_31 : decode cX12_readsOn 31 = .ok (.goto (-23), 3) := by decide +kernel
theorem d_X12_readsOn_34 : decode cX12_readsOn 34 = .ok (.aload_n 0, 1) := by decide +kernel
theorem d_X12_readsOn_35 : decode cX12_readsOn 35 = .ok (.aload_n 0, 1) := by decide +kernel
theorem d_X12_readsOn_36 : decode cX12_readsOn 36 = .ok (.getfield 81, 3) := by decide +kernel
theorem d_X12_readsOn_39 : decode cX12_readsOn 39 = .ok (.putfield 72, 3) := by decide +kernel
theorem d_X12_readsOn_42 : decode cX12_readsOn 42 = .ok (.aload_n 0, 1) := by decide +kernel
theorem d_X12_readsOn_43 : decode cX12_readsOn 43 = .ok (.aload_n 0, 1) := by decide +kernel
theorem d_X12_readsOn_44 : decode cX12_readsOn 44 = .ok (.getfield 81, 3) := by decide +kernel
theorem d_X12_readsOn_47 : decode cX12_readsOn 47 = .ok (.invokevirtual 84, 3) := by decide +kernel
theorem d_X12_readsOn_50 : decode cX12_readsOn 50 = .ok (.istore_n 1, 1) := by decide +kernel
theorem d_X12_readsOn_51 : decode cX12_readsOn 51 = .ok (.aload_n 0, 1) := by decide +kernel
theorem d_X12_readsOn_52 : decode cX12_readsOn 52 = .ok (.iconst 0, 1) := by decide +kernel
theorem d_X12_readsOn_53 : decode cX12_readsOn 53 = .ok (.putfield 88, 3) := by decide +kernel
theorem d_X12_readsOn_56 : decode cX12_readsOn 56 = .ok (.iload_n 1, 1) := by decide +kernel
theorem d_X12_readsOn_57 : decode cX12_readsOn 57 = .ok (.bipush (-4), 2) := by decide +kernel
theorem d_X12_readsOn_59 : decode cX12_readsOn 59 = .ok (.if_icmp .ne 11, 3) := by decide +kernel
theorem d_X12_readsOn_62 : decode cX12_readsOn 62 = .ok (.aload_n 0, 1) := by decide +kernel
theorem d_X12_readsOn_63 : decode cX12_readsOn 63 = .ok (.iconst 0, 1) := by decide +kernel
theorem d_X12_readsOn_64 : decode cX12_readsOn 64 = .ok (.putfield 78, 3) := by decide +kernel
theorem d_X12_readsOn_67 : decode cX12_readsOn 67 = .ok (.goto 218, 3) := by decide +kernel
theorem d_X12_readsOn_70 : decode cX12_readsOn 70 = .ok (.iload_n 1, 1) := by decide +kernel
theorem d_X12_readsOn_71 : decode cX12_readsOn 71 = .ok (.i2l, 1) := by decide +kernel
theorem d_X12_readsOn_72 : decode cX12_readsOn 72 = .ok (.ldc2_w 91, 3) := by decide +kernel
theorem d_X12_readsOn_75 : decode cX12_readsOn 75 = .ok (.ldc2_w 93, 3) := by decide +kernel
theorem d_X12_readsOn_78 : decode cX12_readsOn 78 = .ok (.invokestatic 61, 3) := by decide +kernel
theorem d_X12_readsOn_81 : decode cX12_readsOn 81 = .ok (.ifCond .eq 45, 3) := by decide +kernel
theorem d_X12_readsOn_84 : decode cX12_readsOn 84 = .ok (.aload_n 0, 1) := by decide +kernel
theorem d_X12_readsOn_85 : decode cX12_readsOn 85 = .ok (.aload_n 0, 1) := by decide +kernel
theorem d_X12_readsOn_86 : decode cX12_readsOn 86 = .ok (.getfield 81, 3) := by decide +kernel
theorem d_X12_readsOn_89 : decode cX12_readsOn 89 = .ok (.invokevirtual 84, 3) := by decide +kernel
theorem d_X12_readsOn_92 : decode cX12_readsOn 92 = .ok (.i2l, 1) := by decide +kernel
theorem d_X12_readsOn_93 : decode cX12_readsOn 93 = .ok (.ldc2_w 91, 3) := by decide +kernel
theorem d_X12_readsOn_96 : decode cX12_readsOn 96 = .ok (.ldc2_w 93, 3) := by decide +kernel
theorem d_X12_readsOn_99 : decode cX12_readsOn 99 = .ok (.invokestatic 61, 3) := by decide +kernel
theorem d_X12_readsOn_102 : decode cX12_readsOn 102 = .ok (.ifCond .eq 16, 3) := by decide +kernel
theorem d_X12_readsOn_105 : decode cX12_readsOn 105 = .ok (.aload_n 0, 1) := by decide +kernel
theorem d_X12_readsOn_106 : decode cX12_readsOn 106 = .ok (.dup, 1) := by decide +kernel
theorem d_X12_readsOn_107 : decode cX12_readsOn 107 = .ok (.getfield 81, 3) := by decide +kernel
theorem d_X12_readsOn_110 : decode cX12_readsOn 110 = .ok (.iconst 1, 1) := by decide +kernel
theorem d_X12_readsOn_111 : decode cX12_readsOn 111 = .ok (.iadd, 1) := by decide +kernel
theorem d_X12_readsOn_112 : decode cX12_readsOn 112 = .ok (.putfield 81, 3) := by decide +kernel
theorem d_X12_readsOn_115 : decode cX12_readsOn 115 = .ok (.goto (-31), 3) := by decide +kernel
theorem d_X12_readsOn_118 : decode cX12_readsOn 118 = .ok (.aload_n 0, 1) := by decide +kernel
theorem d_X12_readsOn_119 : decode cX12_readsOn 119 = .ok (.iconst 1, 1) := by decide +kernel
theorem d_X12_readsOn_120 : decode cX12_readsOn 120 = .ok (.putfield 78, 3) := by decide +kernel
theorem d_X12_readsOn_123 : decode cX12_readsOn 123 = .ok (.goto 162, 3) := by decide +kernel
theorem d_X12_readsOn_126 : decode cX12_readsOn 126 = .ok (.iload_n 1, 1) := by decide +kernel
theorem d_X12_readsOn_127 : decode cX12_readsOn 127 = .ok (.i2l, 1) := by decide +kernel
theorem d_X12_readsOn_128 : decode cX12_readsOn 128 = .ok (.ldc2_w 95, 3) := by decide +kernel
theorem d_X12_readsOn_131 : decode cX12_readsOn 131 = .ok (.ldc2_w 97, 3) := by decide +kernel
theorem d_X12_readsOn_134 : decode cX12_readsOn 134 = .ok (.invokestatic 61, 3) := by decide +kernel
theorem d_X12_readsOn_137 : decode cX12_readsOn 137 = .ok (.ifCond .eq 106, 3) := by decide +kernel
theorem d_X12_readsOn_140 : decode cX12_readsOn 140 = .ok (.aload_n 0, 1) := by decide +kernel
theorem d_X12_readsOn_141 : decode cX12_readsOn 141 = .ok (.aload_n 0, 1) := by decide +kernel
theorem d_X12_readsOn_142 : decode cX12_readsOn 142 = .ok (.getfield 81, 3) := by decide +kernel
theorem d_X12_readsOn_145 : decode cX12_readsOn 145 = .ok (.invokevirtual 84, 3) := by decide +kernel
theorem d_X12_readsOn_148 : decode cX12_readsOn 148 = .ok (.i2l, 1) := by decide +kernel
theorem d_X12_readsOn_149 : decode cX12_readsOn 149 = .ok (.ldc2_w 95, 3) := by decide +kernel
theorem d_X12_readsOn_152 : decode cX12_readsOn 152 = .ok (.ldc2_w 97, 3) := by decide +kernel
theorem d_X12_readsOn_155 : decode cX12_readsOn 155 = .ok (.invokestatic 61, 3) := by decide +kernel
theorem d_X12_readsOn_158 : decode cX12_readsOn 158 = .ok (.ifCond .eq 59, 3) := by decide +kernel
theorem d_X12_readsOn_161 : decode cX12_readsOn 161 = .ok (.aload_n 0, 1) := by decide +kernel
theorem d_X12_readsOn_162 : decode cX12_readsOn 162 = .ok (.aload_n 0, 1) := by decide +kernel
theorem d_X12_readsOn_163 : decode cX12_readsOn 163 = .ok (.getfield 81, 3) := by decide +kernel
theorem d_X12_readsOn_166 : decode cX12_readsOn 166 = .ok (.aload_n 0, 1) := by decide +kernel
theorem d_X12_readsOn_167 : decode cX12_readsOn 167 = .ok (.getfield 72, 3) := by decide +kernel
theorem d_X12_readsOn_170 : decode cX12_readsOn 170 = .ok (.isub, 1) := by decide +kernel
theorem d_X12_readsOn_171 : decode cX12_readsOn 171 = .ok (.iconst 2, 1) := by decide +kernel
theorem d_X12_readsOn_172 : decode cX12_readsOn 172 = .ok (.if_icmp .ge 25, 3) := by decide +kernel
theorem d_X12_readsOn_175 : decode cX12_readsOn 175 = .ok (.bipush 10, 2) := by decide +kernel
theorem d_X12_readsOn_177 : decode cX12_readsOn 177 = .ok (.aload_n 0, 1) := by decide +kernel
theorem d_X12_readsOn_178 : decode cX12_readsOn 178 = .ok (.getfield 88, 3) := by decide +kernel
theorem d_X12_readsOn_181 : decode cX12_readsOn 181 = .ok (.imul, 1) := by decide +kernel
theorem d_X12_readsOn_182 : decode cX12_readsOn 182 = .ok (.aload_n 0, 1) := by decide +kernel
theorem d_X12_readsOn_183 : decode cX12_readsOn 183 = .ok (.aload_n 0, 1) := by decide +kernel
theorem d_X12_readsOn_184 : decode cX12_readsOn 184 = .ok (.getfield 81, 3) := by decide +kernel
theorem d_X12_readsOn_187 : decode cX12_readsOn 187 = .ok (.invokevirtual 84, 3) := by decide +kernel
theorem d_X12_readsOn_190 : decode cX12_readsOn 190 = .ok (.iadd, 1) := by decide +kernel
theorem d_X12_readsOn_191 : decode cX12_readsOn 191 = .ok (.bipush 48, 2) := by decide +kernel
theorem d_X12_readsOn_193 : decode cX12_readsOn 193 = .ok (.isub, 1) := by decide +kernel
theorem d_X12_readsOn_194 : decode cX12_readsOn 194 = .ok (.goto 7, 3) := by decide +kernel
theorem d_X12_readsOn_197 : decode cX12_readsOn 197 = .ok (.aload_n 0, 1) := by decide +kernel
theorem d_X12_readsOn_198 : decode cX12_readsOn 198 = .ok (.getfield 88, 3) := by decide +kernel
theorem d_X12_readsOn_201 : decode cX12_readsOn 201 = .ok (.putfield 88, 3) := by decide +kernel
theorem d_X12_readsOn_204 : decode cX12_readsOn 204 = .ok (.aload_n 0, 1) := by decide +kernel
theorem d_X12_readsOn_205 : decode cX12_readsOn 205 = .ok (.dup, 1) := by decide +kernel
theorem d_X12_readsOn_206 : decode cX12_readsOn 206 = .ok (.getfield 81, 3) := by decide +kernel
theorem d_X12_readsOn_209 : decode cX12_readsOn 209 = .ok (.iconst 1, 1) := by decide +kernel
theorem d_X12_readsOn_210 : decode cX12_readsOn 210 = .ok (.iadd, 1) := by decide +kernel
theorem d_X12_readsOn_211 : decode cX12_readsOn 211 = .ok (.putfield 81, 3) := by decide +kernel
theorem d_X12_readsOn_214 : decode cX12_readsOn 214 = .ok (.goto (-74), 3) := by decide +kernel
theorem d_X12_readsOn_217 : decode cX12_readsOn 217 = .ok (.aload_n 0, 1) := by decide +kernel
theorem d_X12_readsOn_218 : decode cX12_readsOn 218 = .ok (.iconst 2, 1) := by decide +kernel
theorem d_X12_readsOn_219 : decode cX12_readsOn 219 = .ok (.putfield 78, 3) := by decide +kernel
theorem d_X12_readsOn_222 : decode cX12_readsOn 222 = .ok (.aload_n 0, 1) := by decide +kernel
theorem d_X12_readsOn_223 : decode cX12_readsOn 223 = .ok (.getfield 81, 3) := by decide +kernel
theorem d_X12_readsOn_226 : decode cX12_readsOn 226 = .ok (.aload_n 0, 1) := by decide +kernel
theorem d_X12_readsOn_227 : decode cX12_readsOn 227 = .ok (.getfield 72, 3) := by decide +kernel
theorem d_X12_readsOn_230 : decode cX12_readsOn 230 = .ok (.isub, 1) := by decide +kernel
theorem d_X12_readsOn_231 : decode cX12_readsOn 231 = .ok (.iconst 2, 1) := by decide +kernel
theorem d_X12_readsOn_232 : decode cX12_readsOn 232 = .ok (.if_icmp .le 53, 3) := by decide +kernel
theorem d_X12_readsOn_235 : decode cX12_readsOn 235 = .ok (.aload_n 0, 1) := by decide +kernel
theorem d_X12_readsOn_236 : decode cX12_readsOn 236 = .ok (.iconst 1, 1) := by decide +kernel
theorem d_X12_readsOn_237 : decode cX12_readsOn 237 = .ok (.invokevirtual 99, 3) := by decide +kernel
theorem d_X12_readsOn_240 : decode cX12_readsOn 240 = .ok (.goto 45, 3) := by decide +kernel
theorem d_X12_readsOn_243 : decode cX12_readsOn 243 = .ok (.aload_n 0, 1) := by decide +kernel
theorem d_X12_readsOn_244 : decode cX12_readsOn 244 = .ok (.iload_n 1, 1) := by decide +kernel
theorem d_X12_readsOn_245 : decode cX12_readsOn 245 = .ok (.bipush 58, 2) := by decide +kernel
theorem d_X12_readsOn_247 : decode cX12_readsOn 247 = .ok (.if_icmp .ne 7, 3) := by decide +kernel
theorem d_X12_readsOn_250 : decode cX12_readsOn 250 = .ok (.iconst 4, 1) := by decide +kernel
theorem d_X12_readsOn_251 : decode cX12_readsOn 251 = .ok (.goto 4, 3) := by decide +kernel
theorem d_X12_readsOn_254 : decode cX12_readsOn 254 = .ok (.iconst 3, 1) := by decide +kernel
theorem d_X12_readsOn_255 : decode cX12_readsOn 255 = .ok (.putfield 78, 3) := by decide +kernel
theorem d_X12_readsOn_258 : decode cX12_readsOn 258 = .ok (.aload_n 0, 1) := by decide +kernel
theorem d_X12_readsOn_259 : decode cX12_readsOn 259 = .ok (.dup, 1) := by decide +kernel
theorem d_X12_readsOn_260 : decode cX12_readsOn 260 = .ok (.getfield 81, 3) := by decide +kernel
theorem d_X12_readsOn_263 : decode cX12_readsOn 263 = .ok (.iconst 1, 1) := by decide +kernel
theorem d_X12_readsOn_264 : decode cX12_readsOn 264 = .ok (.iadd, 1) := by decide +kernel
theorem d_X12_readsOn_265 : decode cX12_readsOn 265 = .ok (.putfield 81, 3) := by decide +kernel
theorem d_X12_readsOn_268 : decode cX12_readsOn 268 = .ok (.iload_n 1, 1) := by decide +kernel
theorem d_X12_readsOn_269 : decode cX12_readsOn 269 = .ok (.bipush 59, 2) := by decide +kernel
theorem d_X12_readsOn_271 : decode cX12_readsOn 271 = .ok (.if_icmp .eq 14, 3) := by decide +kernel
theorem d_X12_readsOn_274 : decode cX12_readsOn 274 = .ok (.iload_n 1, 1) := by decide +kernel
theorem d_X12_readsOn_275 : decode cX12_readsOn 275 = .ok (.bipush 58, 2) := by decide +kernel
theorem d_X12_readsOn_277 : decode cX12_readsOn 277 = .ok (.if_icmp .eq 8, 3) := by decide +kernel
theorem d_X12_readsOn_280 : decode cX12_readsOn 280 = .ok (.aload_n 0, 1) := by decide +kernel
theorem d_X12_readsOn_281 : decode cX12_readsOn 281 = .ok (.iconst 1, 1) := by decide +kernel
theorem d_X12_readsOn_282 : decode cX12_readsOn 282 = .ok (.invokevirtual 99, 3) := by decide +kernel
theorem d_X12_readsOn_285 : decode cX12_readsOn 285 = .ok (.return_, 1) := by decide +kernel
theorem b_X12_readsOn_0 {X : cX} {d : Nat} {μ : mM} {K : Option Value → mM → Prop} {r0 : Nat} (hw12_r0 : WF12 μ r0) (h : (iv μ r0 8) ≤ 0 → G X (Rm (d + 1)) mX12_readsOn 8 [(0, .ref r0)] [] μ 0 0 K) (hK : ¬ (iv μ r0 8) ≤ 0 → K none μ) : G X (Rm (d + 1)) mX12_readsOn 0 [(0, .ref r0)] [] μ 0 0 K := by
  refine G_aload_n d_X12_readsOn_0 rfl 0 rfl ?_
  refine G_getI 12 8 (w12_kd hw12_r0) cok12 (by decide) rfl fl_X12_69 d_X12_readsOn_1 ?_
  refine G_if_le (tgt := 8) d_X12_readsOn_4 rfl (fun c0 => ?_) (fun c0 => ?_)
  ·
    exact (h c0)
  ·
    exact G_vret rfl rfl rfl d_X12_readsOn_7 (hK c0)
theorem b_X12_readsOn_8 {X : cX} {d : Nat} {μ : mM} {K : Option Value → mM → Prop} {r0 : Nat} {j0 : Nat} {j1 : Nat} (hw12_r0 : WF12 μ r0) (hi_j0 : iv μ r0 10 = nI j0) (hs : (¬ (iv μ r0 6) ≤ (nI j0) → j0 < 320)) (hi_j1 : ¬ (e_X12_byteAt μ r0 j0) = (32 : Int32) → iv (wi μ r0 11 (iv μ r0 10)) r0 10 = nI j1) (hs_2 : ¬ (e_X12_byteAt μ r0 j0) = (32 : Int32) → (¬ (iv (wi μ r0 11 (iv μ r0 10)) r0 6) ≤ (nI j1) → j1 < 320)) (h : ¬ (e_X12_byteAt μ r0 j0) = (32 : Int32) → ¬ (e_X12_byteAt (wi μ r0 11 (iv μ r0 10)) r0 j1) = ((-4) : Int32) → (e_X12_in (wi (wi μ r0 11 (iv μ r0 10)) r0 13 0) ((e_X12_byteAt (wi μ r0 11 (iv μ r0 10)) r0 j1).toInt64) 97 122) = 0 → (e_X12_in (wi (wi μ r0 11 (iv μ r0 10)) r0 13 0) ((e_X12_byteAt (wi μ r0 11 (iv μ r0 10)) r0 j1).toInt64) 48 57) = 0 → ¬ (e_X12_byteAt (wi μ r0 11 (iv μ r0 10)) r0 j1) = (58 : Int32) → G X (Rm (d + 1)) mX12_readsOn 255 [(0, .ref r0), (1, .int (e_X12_byteAt (wi μ r0 11 (iv μ r0 10)) r0 j1))] [.int 3, .ref r0] (wi (wi μ r0 11 (iv μ r0 10)) r0 13 0) 0 0 K) (h_2 : ¬ (e_X12_byteAt μ r0 j0) = (32 : Int32) → ¬ (e_X12_byteAt (wi μ r0 11 (iv μ r0 10)) r0 j1) = ((-4) : Int32) → (e_X12_in (wi (wi μ r0 11 (iv μ r0 10)) r0 13 0) ((e_X12_byteAt (wi μ r0 11 (iv μ r0 10)) r0 j1).toInt64) 97 122) = 0 → (e_X12_in (wi (wi μ r0 11 (iv μ r0 10)) r0 13 0) ((e_X12_byteAt (wi μ r0 11 (iv μ r0 10)) r0 j1).toInt64) 48 57) = 0 → (e_X12_byteAt (wi μ r0 11 (iv μ r0 10)) r0 j1) = (58 : Int32) → G X (Rm (d + 1)) mX12_readsOn 255 [(0, .ref r0), (1, .int (e_X12_byteAt (wi μ r0 11 (iv μ r0 10)) r0 j1))] [.int 4, .ref r0] (wi (wi μ r0 11 (iv μ r0 10)) r0 13 0) 0 0 K) (h_3 : ¬ (e_X12_byteAt μ r0 j0) = (32 : Int32) → ¬ (e_X12_byteAt (wi μ r0 11 (iv μ r0 10)) r0 j1) = ((-4) : Int32) → (e_X12_in (wi (wi μ r0 11 (iv μ r0 10)) r0 13 0) ((e_X12_byteAt (wi μ r0 11 (iv μ r0 10)) r0 j1).toInt64) 97 122) = 0 → ¬ (e_X12_in (wi (wi μ r0 11 (iv μ r0 10)) r0 13 0) ((e_X12_byteAt (wi μ r0 11 (iv μ r0 10)) r0 j1).toInt64) 48 57) = 0 → G X (Rm (d + 1)) mX12_readsOn 140 [(0, .ref r0)] [] (wi (wi μ r0 11 (iv μ r0 10)) r0 13 0) 0 0 K) (h_4 : ¬ (e_X12_byteAt μ r0 j0) = (32 : Int32) → ¬ (e_X12_byteAt (wi μ r0 11 (iv μ r0 10)) r0 j1) = ((-4) : Int32) → ¬ (e_X12_in (wi (wi μ r0 11 (iv μ r0 10)) r0 13 0) ((e_X12_byteAt (wi μ r0 11 (iv μ r0 10)) r0 j1).toInt64) 97 122) = 0 → G X (Rm (d + 1)) mX12_readsOn 84 [(0, .ref r0)] [] (wi (wi μ r0 11 (iv μ r0 10)) r0 13 0) 0 0 K) (h_5 : ¬ (e_X12_byteAt μ r0 j0) = (32 : Int32) → (e_X12_byteAt (wi μ r0 11 (iv μ r0 10)) r0 j1) = ((-4) : Int32) → G X (Rm (d + 1)) mX12_readsOn 285 [] [] (wi (wi (wi μ r0 11 (iv μ r0 10)) r0 13 0) r0 12 0) 0 0 K) (h_6 : (e_X12_byteAt μ r0 j0) = (32 : Int32) → G X (Rm (d + 1)) mX12_readsOn 8 [(0, .ref r0)] [] (wi μ r0 10 ((iv μ r0 10) + 1)) 0 0 K) : G X (Rm (d + 1)) mX12_readsOn 8 [(0, .ref r0)] [] μ 0 0 K := by
  refine G_aload_n d_X12_readsOn_8 rfl 0 rfl ?_
  refine G_aload_n d_X12_readsOn_9 rfl 0 rfl ?_
  refine G_getI 12 10 (w12_kd hw12_r0) cok12 (by decide) rfl fl_X12_81 d_X12_readsOn_10 ?_
  refine G_stk (S' := [.int (nI j0), .ref r0]) (by rw [hi_j0]) ?_
  refine G_callV (M' := mX12_byteAt) (R' := (Rm d)) (S := []) [.int (nI j0)] 12 (w12_kd hw12_r0) cok12 rfl ok_X12_byteAt ml_X12_84 pn_X12_byteAt (ru_Rm (by decide)) (Nat.le_of_ble_eq_true rfl) d_X12_readsOn_13 (s_X12_byteAt (μ := μ) (i1 := j0) hw12_r0 hs ?_)
  show G X (Rm (d + 1)) mX12_readsOn 16 [(0, .ref r0)] [.int (e_X12_byteAt μ r0 j0)] μ 0 0 K
  refine G_bipush d_X12_readsOn_16 bp_32 ?_
  refine G_icmp_ne (tgt := 34) d_X12_readsOn_18 rfl (fun c0 => ?_) (fun c0 => ?_)
  ·
    refine G_aload_n d_X12_readsOn_34 rfl 0 rfl ?_
    refine G_aload_n d_X12_readsOn_35 rfl 0 rfl ?_
    refine G_getI 12 10 (w12_kd hw12_r0) cok12 (by decide) rfl fl_X12_81 d_X12_readsOn_36 ?_
    refine G_putI 12 11 (w12_kd hw12_r0) rfl rfl cok12 (by decide) rfl (Or.inl rfl) fl_X12_72 d_X12_readsOn_39 ?_
    refine G_aload_n d_X12_readsOn_42 rfl 0 rfl ?_
    refine G_aload_n d_X12_readsOn_43 rfl 0 rfl ?_
    refine G_getI 12 10 (w12_kd hw12_r0) cok12 (by decide) rfl fl_X12_81 d_X12_readsOn_44 ?_
    refine G_stk (S' := [.int (nI j1), .ref r0]) (by rw [(hi_j1 c0)]) ?_
    refine G_callV (M' := mX12_byteAt) (R' := (Rm d)) (S := []) [.int (nI j1)] 12 (w12_kd hw12_r0) cok12 rfl ok_X12_byteAt ml_X12_84 pn_X12_byteAt (ru_Rm (by decide)) (Nat.le_of_ble_eq_true rfl) d_X12_readsOn_47 (s_X12_byteAt (μ := wi μ r0 11 (iv μ r0 10)) (i1 := j1) hw12_r0 (hs_2 c0) ?_)
    show G X (Rm (d + 1)) mX12_readsOn 50 [(0, .ref r0)] [.int (e_X12_byteAt (wi μ r0 11 (iv μ r0 10)) r0 j1)] (wi μ r0 11 (iv μ r0 10)) 0 0 K
    refine G_istore_n (L' := [(1, .int (e_X12_byteAt (wi μ r0 11 (iv μ r0 10)) r0 j1)), (0, .ref r0)]) d_X12_readsOn_50 rfl (by decide) rfl ?_
    refine G_aload_n d_X12_readsOn_51 rfl 1 rfl ?_
    refine G_iconst d_X12_readsOn_52 ic_0 ?_
    refine G_putI 12 13 (w12_kd hw12_r0) rfl rfl cok12 (by decide) rfl (Or.inl rfl) fl_X12_88 d_X12_readsOn_53 ?_
    refine G_iload_n d_X12_readsOn_56 rfl 0 rfl ?_
    refine G_bipush d_X12_readsOn_57 bp_m4 ?_
    refine G_icmp_ne (tgt := 70) d_X12_readsOn_59 rfl (fun c1 => ?_) (fun c1 => ?_)
    ·
      refine G_iload_n d_X12_readsOn_70 rfl 0 rfl ?_
      refine G_i2l (v := (e_X12_byteAt (wi μ r0 11 (iv μ r0 10)) r0 j1).toInt64) d_X12_readsOn_71 rfl ?_
      refine G_ldc2 kl_X12_91 d_X12_readsOn_72 ?_
      refine G_ldc2 kl_X12_93 d_X12_readsOn_75 ?_
      refine G_callS (M' := mX12_in) (R' := (Rm d)) (S := []) [.long ((e_X12_byteAt (wi μ r0 11 (iv μ r0 10)) r0 j1).toInt64), .long 97, .long 122] ok_X12_in ml_X12_61 pn_X12_in (ru_Rm (by decide)) (Nat.le_of_ble_eq_true rfl) d_X12_readsOn_78 (s_X12_in (μ := wi (wi μ r0 11 (iv μ r0 10)) r0 13 0)   ?_)
      show G X (Rm (d + 1)) mX12_readsOn 81 [(1, .int (e_X12_byteAt (wi μ r0 11 (iv μ r0 10)) r0 j1)), (0, .ref r0)] [.int (e_X12_in (wi (wi μ r0 11 (iv μ r0 10)) r0 13 0) ((e_X12_byteAt (wi μ r0 11 (iv μ r0 10)) r0 j1).toInt64) 97 122)] (wi (wi μ r0 11 (iv μ r0 10)) r0 13 0) 0 0 K
      refine G_if_eq (tgt := 126) d_X12_readsOn_81 rfl (fun c2 => ?_) (fun c2 => ?_)
      ·
        refine G_iload_n d_X12_readsOn_126 rfl 0 rfl ?_
        refine G_i2l (v := (e_X12_byteAt (wi μ r0 11 (iv μ r0 10)) r0 j1).toInt64) d_X12_readsOn_127 rfl ?_
        refine G_ldc2 kl_X12_95 d_X12_readsOn_128 ?_
        refine G_ldc2 kl_X12_97 d_X12_readsOn_131 ?_
        refine G_callS (M' := mX12_in) (R' := (Rm d)) (S := []) [.long ((e_X12_byteAt (wi μ r0 11 (iv μ r0 10)) r0 j1).toInt64), .long 48, .long 57] ok_X12_in ml_X12_61 pn_X12_in (ru_Rm (by decide)) (Nat.le_of_ble_eq_true rfl) d_X12_readsOn_134 (s_X12_in (μ := wi (wi μ r0 11 (iv μ r0 10)) r0 13 0)   ?_)
        show G X (Rm (d + 1)) mX12_readsOn 137 [(1, .int (e_X12_byteAt (wi μ r0 11 (iv μ r0 10)) r0 j1)), (0, .ref r0)] [.int (e_X12_in (wi (wi μ r0 11 (iv μ r0 10)) r0 13 0) ((e_X12_byteAt (wi μ r0 11 (iv μ r0 10)) r0 j1).toInt64) 48 57)] (wi (wi μ r0 11 (iv μ r0 10)) r0 13 0) 0 0 K
        refine G_if_eq (tgt := 243) d_X12_readsOn_137 rfl (fun c3 => ?_) (fun c3 => ?_)
        ·
          refine G_aload_n d_X12_readsOn_243 rfl 1 rfl ?_
          refine G_iload_n d_X12_readsOn_244 rfl 0 rfl ?_
          refine G_bipush d_X12_readsOn_245 bp_58 ?_
          refine G_icmp_ne (tgt := 254) d_X12_readsOn_247 rfl (fun c4 => ?_) (fun c4 => ?_)
          ·
            refine G_iconst d_X12_readsOn_254 ic_3 ?_
            refine G_sub (L' := [(0, .ref r0), (1, .int (e_X12_byteAt (wi μ r0 11 (iv μ r0 10)) r0 j1))]) [1, 0] rfl ?_
            exact (h c0 c1 c2 c3 c4)
          ·
            refine G_iconst d_X12_readsOn_250 ic_4 ?_
            refine G_goto (tgt := 255) d_X12_readsOn_251 rfl ?_
            refine G_sub (L' := [(0, .ref r0), (1, .int (e_X12_byteAt (wi μ r0 11 (iv μ r0 10)) r0 j1))]) [1, 0] rfl ?_
            exact (h_2 c0 c1 c2 c3 c4)
        ·
          refine G_sub (L' := [(0, .ref r0)]) [1] rfl ?_
          exact (h_3 c0 c1 c2 c3)
      ·
        refine G_sub (L' := [(0, .ref r0)]) [1] rfl ?_
        exact (h_4 c0 c1 c2)
    ·
      refine G_aload_n d_X12_readsOn_62 rfl 1 rfl ?_
      refine G_iconst d_X12_readsOn_63 ic_0 ?_
      refine G_putI 12 12 (w12_kd hw12_r0) rfl rfl cok12 (by decide) rfl (Or.inl rfl) fl_X12_78 d_X12_readsOn_64 ?_
      refine G_goto (tgt := 285) d_X12_readsOn_67 rfl ?_
      refine G_sub (L' := []) [] rfl ?_
      exact (h_5 c0 c1)
  ·
    refine G_aload_n d_X12_readsOn_21 rfl 0 rfl ?_
    refine G_dup d_X12_readsOn_22 rfl ?_
    refine G_getI 12 10 (w12_kd hw12_r0) cok12 (by decide) rfl fl_X12_81 d_X12_readsOn_23 ?_
    refine G_iconst d_X12_readsOn_26 ic_1 ?_
    refine G_iadd d_X12_readsOn_27 ?_
    refine G_putI 12 10 (w12_kd hw12_r0) rfl rfl cok12 (by decide) rfl (Or.inl rfl) fl_X12_81 d_X12_readsOn_28 ?_
    refine G_goto (tgt := 8) d_X12_readsOn_31 rfl ?_
    exact (h_6 c0)
theorem b_X12_readsOn_84 {X : cX} {d : Nat} {μ : mM} {K : Option Value → mM → Prop} {r0 : Nat} {j0 : Nat} (hw12_r0 : WF12 μ r0) (hi_j0 : iv μ r0 10 = nI j0) (hs : (¬ (iv μ r0 6) ≤ (nI j0) → j0 < 320)) (h : (e_X12_in μ ((e_X12_byteAt μ r0 j0).toInt64) 97 122) = 0 → G X (Rm (d + 1)) mX12_readsOn 285 [] [] (wi μ r0 12 1) 0 0 K) (h_2 : ¬ (e_X12_in μ ((e_X12_byteAt μ r0 j0).toInt64) 97 122) = 0 → G X (Rm (d + 1)) mX12_readsOn 84 [(0, .ref r0)] [] (wi μ r0 10 ((iv μ r0 10) + 1)) 0 0 K) : G X (Rm (d + 1)) mX12_readsOn 84 [(0, .ref r0)] [] μ 0 0 K := by
  refine G_aload_n d_X12_readsOn_84 rfl 0 rfl ?_
  refine G_aload_n d_X12_readsOn_85 rfl 0 rfl ?_
  refine G_getI 12 10 (w12_kd hw12_r0) cok12 (by decide) rfl fl_X12_81 d_X12_readsOn_86 ?_
  refine G_stk (S' := [.int (nI j0), .ref r0]) (by rw [hi_j0]) ?_
  refine G_callV (M' := mX12_byteAt) (R' := (Rm d)) (S := []) [.int (nI j0)] 12 (w12_kd hw12_r0) cok12 rfl ok_X12_byteAt ml_X12_84 pn_X12_byteAt (ru_Rm (by decide)) (Nat.le_of_ble_eq_true rfl) d_X12_readsOn_89 (s_X12_byteAt (μ := μ) (i1 := j0) hw12_r0 hs ?_)
  show G X (Rm (d + 1)) mX12_readsOn 92 [(0, .ref r0)] [.int (e_X12_byteAt μ r0 j0)] μ 0 0 K
  refine G_i2l (v := (e_X12_byteAt μ r0 j0).toInt64) d_X12_readsOn_92 rfl ?_
  refine G_ldc2 kl_X12_91 d_X12_readsOn_93 ?_
  refine G_ldc2 kl_X12_93 d_X12_readsOn_96 ?_
  refine G_callS (M' := mX12_in) (R' := (Rm d)) (S := []) [.long ((e_X12_byteAt μ r0 j0).toInt64), .long 97, .long 122] ok_X12_in ml_X12_61 pn_X12_in (ru_Rm (by decide)) (Nat.le_of_ble_eq_true rfl) d_X12_readsOn_99 (s_X12_in (μ := μ)   ?_)
  show G X (Rm (d + 1)) mX12_readsOn 102 [(0, .ref r0)] [.int (e_X12_in μ ((e_X12_byteAt μ r0 j0).toInt64) 97 122)] μ 0 0 K
  refine G_if_eq (tgt := 118) d_X12_readsOn_102 rfl (fun c0 => ?_) (fun c0 => ?_)
  ·
    refine G_aload_n d_X12_readsOn_118 rfl 0 rfl ?_
    refine G_iconst d_X12_readsOn_119 ic_1 ?_
    refine G_putI 12 12 (w12_kd hw12_r0) rfl rfl cok12 (by decide) rfl (Or.inl rfl) fl_X12_78 d_X12_readsOn_120 ?_
    refine G_goto (tgt := 285) d_X12_readsOn_123 rfl ?_
    refine G_sub (L' := []) [] rfl ?_
    exact (h c0)
  ·
    refine G_aload_n d_X12_readsOn_105 rfl 0 rfl ?_
    refine G_dup d_X12_readsOn_106 rfl ?_
    refine G_getI 12 10 (w12_kd hw12_r0) cok12 (by decide) rfl fl_X12_81 d_X12_readsOn_107 ?_
    refine G_iconst d_X12_readsOn_110 ic_1 ?_
    refine G_iadd d_X12_readsOn_111 ?_
    refine G_putI 12 10 (w12_kd hw12_r0) rfl rfl cok12 (by decide) rfl (Or.inl rfl) fl_X12_81 d_X12_readsOn_112 ?_
    refine G_goto (tgt := 84) d_X12_readsOn_115 rfl ?_
    exact (h_2 c0)
theorem b_X12_readsOn_140 {X : cX} {d : Nat} {μ : mM} {K : Option Value → mM → Prop} {r0 : Nat} {j0 : Nat} (hw12_r0 : WF12 μ r0) (hi_j0 : iv μ r0 10 = nI j0) (hs : (¬ (iv μ r0 6) ≤ (nI j0) → j0 < 320)) (h : (e_X12_in μ ((e_X12_byteAt μ r0 j0).toInt64) 48 57) = 0 → ((iv (wi μ r0 12 2) r0 10) - (iv (wi μ r0 12 2) r0 11)) ≤ (2 : Int32) → G X (Rm (d + 1)) mX12_readsOn 285 [] [] (wi μ r0 12 2) 0 0 K) (hc_fails : (e_X12_in μ ((e_X12_byteAt μ r0 j0).toInt64) 48 57) = 0 → ¬ ((iv (wi μ r0 12 2) r0 10) - (iv (wi μ r0 12 2) r0 11)) ≤ (2 : Int32) → Ct X (Rm d) mX12_fails [.ref r0, .int 1] (wi μ r0 12 2) (fun r μ2 => G X (Rm (d + 1)) mX12_readsOn 240 [] (r.toList ++ []) μ2 0 0 K)) (h_2 : ¬ (e_X12_in μ ((e_X12_byteAt μ r0 j0).toInt64) 48 57) = 0 → (2 : Int32) ≤ ((iv μ r0 10) - (iv μ r0 11)) → G X (Rm (d + 1)) mX12_readsOn 201 [(0, .ref r0)] [.int (iv μ r0 13), .ref r0] μ 0 0 K) (hi_j0_2 : ¬ (e_X12_in μ ((e_X12_byteAt μ r0 j0).toInt64) 48 57) = 0 → ¬ (2 : Int32) ≤ ((iv μ r0 10) - (iv μ r0 11)) → iv μ r0 10 = nI j0) (hs_2 : ¬ (e_X12_in μ ((e_X12_byteAt μ r0 j0).toInt64) 48 57) = 0 → ¬ (2 : Int32) ≤ ((iv μ r0 10) - (iv μ r0 11)) → (¬ (iv μ r0 6) ≤ (nI j0) → j0 < 320)) (h_3 : ¬ (e_X12_in μ ((e_X12_byteAt μ r0 j0).toInt64) 48 57) = 0 → ¬ (2 : Int32) ≤ ((iv μ r0 10) - (iv μ r0 11)) → G X (Rm (d + 1)) mX12_readsOn 201 [(0, .ref r0)] [.int ((((10 : Int32) * (iv μ r0 13)) + (e_X12_byteAt μ r0 j0)) - 48), .ref r0] μ 0 0 K) : G X (Rm (d + 1)) mX12_readsOn 140 [(0, .ref r0)] [] μ 0 0 K := by
  refine G_aload_n d_X12_readsOn_140 rfl 0 rfl ?_
  refine G_aload_n d_X12_readsOn_141 rfl 0 rfl ?_
  refine G_getI 12 10 (w12_kd hw12_r0) cok12 (by decide) rfl fl_X12_81 d_X12_readsOn_142 ?_
  refine G_stk (S' := [.int (nI j0), .ref r0]) (by rw [hi_j0]) ?_
  refine G_callV (M' := mX12_byteAt) (R' := (Rm d)) (S := []) [.int (nI j0)] 12 (w12_kd hw12_r0) cok12 rfl ok_X12_byteAt ml_X12_84 pn_X12_byteAt (ru_Rm (by decide)) (Nat.le_of_ble_eq_true rfl) d_X12_readsOn_145 (s_X12_byteAt (μ := μ) (i1 := j0) hw12_r0 hs ?_)
  show G X (Rm (d + 1)) mX12_readsOn 148 [(0, .ref r0)] [.int (e_X12_byteAt μ r0 j0)] μ 0 0 K
  refine G_i2l (v := (e_X12_byteAt μ r0 j0).toInt64) d_X12_readsOn_148 rfl ?_
  refine G_ldc2 kl_X12_95 d_X12_readsOn_149 ?_
  refine G_ldc2 kl_X12_97 d_X12_readsOn_152 ?_
  refine G_callS (M' := mX12_in) (R' := (Rm d)) (S := []) [.long ((e_X12_byteAt μ r0 j0).toInt64), .long 48, .long 57] ok_X12_in ml_X12_61 pn_X12_in (ru_Rm (by decide)) (Nat.le_of_ble_eq_true rfl) d_X12_readsOn_155 (s_X12_in (μ := μ)   ?_)
  show G X (Rm (d + 1)) mX12_readsOn 158 [(0, .ref r0)] [.int (e_X12_in μ ((e_X12_byteAt μ r0 j0).toInt64) 48 57)] μ 0 0 K
  refine G_if_eq (tgt := 217) d_X12_readsOn_158 rfl (fun c0 => ?_) (fun c0 => ?_)
  ·
    refine G_aload_n d_X12_readsOn_217 rfl 0 rfl ?_
    refine G_iconst d_X12_readsOn_218 ic_2 ?_
    refine G_putI 12 12 (w12_kd hw12_r0) rfl rfl cok12 (by decide) rfl (Or.inl rfl) fl_X12_78 d_X12_readsOn_219 ?_
    refine G_aload_n d_X12_readsOn_222 rfl 0 rfl ?_
    refine G_getI 12 10 (w12_kd hw12_r0) cok12 (by decide) rfl fl_X12_81 d_X12_readsOn_223 ?_
    refine G_aload_n d_X12_readsOn_226 rfl 0 rfl ?_
    refine G_getI 12 11 (w12_kd hw12_r0) cok12 (by decide) rfl fl_X12_72 d_X12_readsOn_227 ?_
    refine G_isub d_X12_readsOn_230 ?_
    refine G_iconst d_X12_readsOn_231 ic_2 ?_
    refine G_icmp_le (tgt := 285) d_X12_readsOn_232 rfl (fun c1 => ?_) (fun c1 => ?_)
    ·
      refine G_sub (L' := []) [] rfl ?_
      exact (h c0 c1)
    ·
      refine G_aload_n d_X12_readsOn_235 rfl 0 rfl ?_
      refine G_iconst d_X12_readsOn_236 ic_1 ?_
      refine G_sub (L' := []) [] rfl ?_
      refine G_callV (M' := mX12_fails) (R' := (Rm d)) (S := []) [.int 1] 12 (w12_kd hw12_r0) cok12 rfl ok_X12_fails ml_X12_99 pn_X12_fails (ru_Rm (by decide)) (Nat.le_of_ble_eq_true rfl) d_X12_readsOn_237 ?_
      exact (hc_fails c0 c1)
  ·
    refine G_aload_n d_X12_readsOn_161 rfl 0 rfl ?_
    refine G_aload_n d_X12_readsOn_162 rfl 0 rfl ?_
    refine G_getI 12 10 (w12_kd hw12_r0) cok12 (by decide) rfl fl_X12_81 d_X12_readsOn_163 ?_
    refine G_aload_n d_X12_readsOn_166 rfl 0 rfl ?_
    refine G_getI 12 11 (w12_kd hw12_r0) cok12 (by decide) rfl fl_X12_72 d_X12_readsOn_167 ?_
    refine G_isub d_X12_readsOn_170 ?_
    refine G_iconst d_X12_readsOn_171 ic_2 ?_
    refine G_icmp_ge (tgt := 197) d_X12_readsOn_172 rfl (fun c1 => ?_) (fun c1 => ?_)
    ·
      refine G_aload_n d_X12_readsOn_197 rfl 0 rfl ?_
      refine G_getI 12 13 (w12_kd hw12_r0) cok12 (by decide) rfl fl_X12_88 d_X12_readsOn_198 ?_
      exact (h_2 c0 c1)
    ·
      refine G_bipush d_X12_readsOn_175 bp_10 ?_
      refine G_aload_n d_X12_readsOn_177 rfl 0 rfl ?_
      refine G_getI 12 13 (w12_kd hw12_r0) cok12 (by decide) rfl fl_X12_88 d_X12_readsOn_178 ?_
      refine G_imul d_X12_readsOn_181 ?_
      refine G_aload_n d_X12_readsOn_182 rfl 0 rfl ?_
      refine G_aload_n d_X12_readsOn_183 rfl 0 rfl ?_
      refine G_getI 12 10 (w12_kd hw12_r0) cok12 (by decide) rfl fl_X12_81 d_X12_readsOn_184 ?_
      refine G_stk (S' := [.int (nI j0), .ref r0, .int ((10 : Int32) * (iv μ r0 13)), .ref r0]) (by rw [(hi_j0_2 c0 c1)]) ?_
      refine G_callV (M' := mX12_byteAt) (R' := (Rm d)) (S := [.int ((10 : Int32) * (iv μ r0 13)), .ref r0]) [.int (nI j0)] 12 (w12_kd hw12_r0) cok12 rfl ok_X12_byteAt ml_X12_84 pn_X12_byteAt (ru_Rm (by decide)) (Nat.le_of_ble_eq_true rfl) d_X12_readsOn_187 (s_X12_byteAt (μ := μ) (i1 := j0) hw12_r0 (hs_2 c0 c1) ?_)
      show G X (Rm (d + 1)) mX12_readsOn 190 [(0, .ref r0)] [.int (e_X12_byteAt μ r0 j0), .int ((10 : Int32) * (iv μ r0 13)), .ref r0] μ 0 0 K
      refine G_iadd d_X12_readsOn_190 ?_
      refine G_bipush d_X12_readsOn_191 bp_48 ?_
      refine G_isub d_X12_readsOn_193 ?_
      refine G_goto (tgt := 201) d_X12_readsOn_194 rfl ?_
      exact (h_3 c0 c1)
theorem b_X12_readsOn_201 {X : cX} {d : Nat} {μ : mM} {K : Option Value → mM → Prop} {r0 : Nat} {q0 : Nat} {v1 : Int32} (hw12_q0 : WF12 μ q0) (hw12_r0 : WF12 μ r0) (h : G X (Rm (d + 1)) mX12_readsOn 140 [(0, .ref r0)] [] (wi (wi μ q0 13 v1) r0 10 ((iv (wi μ q0 13 v1) r0 10) + 1)) 0 0 K) : G X (Rm (d + 1)) mX12_readsOn 201 [(0, .ref r0)] [.int v1, .ref q0] μ 0 0 K := by
  refine G_putI 12 13 (w12_kd hw12_q0) rfl rfl cok12 (by decide) rfl (Or.inl rfl) fl_X12_88 d_X12_readsOn_201 ?_
  refine G_aload_n d_X12_readsOn_204 rfl 0 rfl ?_
  refine G_dup d_X12_readsOn_205 rfl ?_
  refine G_getI 12 10 (w12_kd hw12_r0) cok12 (by decide) rfl fl_X12_81 d_X12_readsOn_206 ?_
  refine G_iconst d_X12_readsOn_209 ic_1 ?_
  refine G_iadd d_X12_readsOn_210 ?_
  refine G_putI 12 10 (w12_kd hw12_r0) rfl rfl cok12 (by decide) rfl (Or.inl rfl) fl_X12_81 d_X12_readsOn_211 ?_
  refine G_goto (tgt := 140) d_X12_readsOn_214 rfl ?_
  exact h
theorem b_X12_readsOn_240 {X : cX} {d : Nat} {μ : mM} {K : Option Value → mM → Prop}  (h : G X (Rm (d + 1)) mX12_readsOn 285 [] [] μ 0 0 K) : G X (Rm (d + 1)) mX12_readsOn 240 [] [] μ 0 0 K := by
  refine G_goto (tgt := 285) d_X12_readsOn_240 rfl ?_
  exact h
theorem b_X12_readsOn_255 {X : cX} {d : Nat} {μ : mM} {K : Option Value → mM → Prop} {r0 : Nat} {l1 : Int32} {q0 : Nat} {v1 : Int32} (hw12_q0 : WF12 μ q0) (hw12_r0 : WF12 μ r0) (h : l1 = (59 : Int32) → G X (Rm (d + 1)) mX12_readsOn 285 [] [] (wi (wi μ q0 12 v1) r0 10 ((iv (wi μ q0 12 v1) r0 10) + 1)) 0 0 K) (h_2 : ¬ l1 = (59 : Int32) → l1 = (58 : Int32) → G X (Rm (d + 1)) mX12_readsOn 285 [] [] (wi (wi μ q0 12 v1) r0 10 ((iv (wi μ q0 12 v1) r0 10) + 1)) 0 0 K) (hc_fails : ¬ l1 = (59 : Int32) → ¬ l1 = (58 : Int32) → Ct X (Rm d) mX12_fails [.ref r0, .int 1] (wi (wi μ q0 12 v1) r0 10 ((iv (wi μ q0 12 v1) r0 10) + 1)) (fun r μ2 => G X (Rm (d + 1)) mX12_readsOn 285 [] (r.toList ++ []) μ2 0 0 K)) : G X (Rm (d + 1)) mX12_readsOn 255 [(0, .ref r0), (1, .int l1)] [.int v1, .ref q0] μ 0 0 K := by
  refine G_putI 12 12 (w12_kd hw12_q0) rfl rfl cok12 (by decide) rfl (Or.inl rfl) fl_X12_78 d_X12_readsOn_255 ?_
  refine G_aload_n d_X12_readsOn_258 rfl 0 rfl ?_
  refine G_dup d_X12_readsOn_259 rfl ?_
  refine G_getI 12 10 (w12_kd hw12_r0) cok12 (by decide) rfl fl_X12_81 d_X12_readsOn_260 ?_
  refine G_iconst d_X12_readsOn_263 ic_1 ?_
  refine G_iadd d_X12_readsOn_264 ?_
  refine G_putI 12 10 (w12_kd hw12_r0) rfl rfl cok12 (by decide) rfl (Or.inl rfl) fl_X12_81 d_X12_readsOn_265 ?_
  refine G_iload_n d_X12_readsOn_268 rfl 1 rfl ?_
  refine G_bipush d_X12_readsOn_269 bp_59 ?_
  refine G_icmp_eq (tgt := 285) d_X12_readsOn_271 rfl (fun c0 => ?_) (fun c0 => ?_)
  ·
    refine G_sub (L' := []) [] rfl ?_
    exact (h c0)
  ·
    refine G_iload_n d_X12_readsOn_274 rfl 1 rfl ?_
    refine G_bipush d_X12_readsOn_275 bp_58 ?_
    refine G_icmp_eq (tgt := 285) d_X12_readsOn_277 rfl (fun c1 => ?_) (fun c1 => ?_)
    ·
      refine G_sub (L' := []) [] rfl ?_
      exact (h_2 c0 c1)
    ·
      refine G_aload_n d_X12_readsOn_280 rfl 0 rfl ?_
      refine G_iconst d_X12_readsOn_281 ic_1 ?_
      refine G_sub (L' := []) [] rfl ?_
      refine G_callV (M' := mX12_fails) (R' := (Rm d)) (S := []) [.int 1] 12 (w12_kd hw12_r0) cok12 rfl ok_X12_fails ml_X12_99 pn_X12_fails (ru_Rm (by decide)) (Nat.le_of_ble_eq_true rfl) d_X12_readsOn_282 ?_
      exact (hc_fails c0 c1)
theorem b_X12_readsOn_285 {X : cX} {d : Nat} {μ : mM} {K : Option Value → mM → Prop}  (hK : K none μ) : G X (Rm (d + 1)) mX12_readsOn 285 [] [] μ 0 0 K := by
  exact G_vret rfl rfl rfl d_X12_readsOn_285 hK
theorem d_X12_letterRead_0 : decode cX12_letterRead 0 = .ok (.aload_n 0, 1) := by decide +kernel
theorem d_X12_letterRead_1 : decode cX12_letterRead 1 = .ok (.getfield 78, 3) := by decide +kernel
theorem d_X12_letterRead_4 : decode cX12_letterRead 4 = .ok (.iconst 1, 1) := by decide +kernel
theorem d_X12_letterRead_5 : decode cX12_letterRead 5 = .ok (.if_icmp .ne 43, 3) := by decide +kernel
theorem d_X12_letterRead_8 : decode cX12_letterRead 8 = .ok (.aload_n 0, 1) := by decide +kernel
theorem d_X12_letterRead_9 : decode cX12_letterRead 9 = .ok (.getfield 81, 3) := by decide +kernel
theorem d_X12_letterRead_12 : decode cX12_letterRead 12 = .ok (.aload_n 0, 1) := by decide +kernel
theorem d_X12_letterRead_13 : decode cX12_letterRead 13 = .ok (.getfield 72, 3) := by decide +kernel
theorem d_X12_letterRead_16 : decode cX12_letterRead 16 = .ok (.isub, 1) := by decide +kernel
theorem d_X12_letterRead_17 : decode cX12_letterRead 17 = .ok (.iconst 1, 1) := by decide +kernel
theorem d_X12_letterRead_18 : decode cX12_letterRead 18 = .ok (.if_icmp .ne 30, 3) := by decide +kernel
theorem d_X12_letterRead_21 : decode cX12_letterRead 21 = .ok (.aload_n 0, 1) := by decide +kernel
theorem d_X12_letterRead_22 : decode cX12_letterRead 22 = .ok (.aload_n 0, 1) := by decide +kernel
theorem d_X12_letterRead_23 : decode cX12_letterRead 23 = .ok (.getfield 72, 3) := by decide +kernel
theorem d_X12_letterRead_26 : decode cX12_letterRead 26 = .ok (.invokevirtual 84, 3) := by decide +kernel
theorem d_X12_letterRead_29 : decode cX12_letterRead 29 = .ok (.i2l, 1) := by decide +kernel
theorem d_X12_letterRead_30 : decode cX12_letterRead 30 = .ok (.iload_n 1, 1) := by decide +kernel
theorem d_X12_letterRead_31 : decode cX12_letterRead 31 = .ok (.i2l, 1) := by decide +kernel
theorem d_X12_letterRead_32 : decode cX12_letterRead 32 = .ok (.iload_n 1, 1) := by decide +kernel
theorem d_X12_letterRead_33 : decode cX12_letterRead 33 = .ok (.i2l, 1) := by decide +kernel
theorem d_X12_letterRead_34 : decode cX12_letterRead 34 = .ok (.ldc2_w 103, 3) := by decide +kernel
theorem d_X12_letterRead_37 : decode cX12_letterRead 37 = .ok (.ladd, 1) := by decide +kernel
theorem d_X12_letterRead_38 : decode cX12_letterRead 38 = .ok (.invokestatic 61, 3) := by decide +kernel
theorem d_X12_letterRead_41 : decode cX12_letterRead 41 = .ok (.ifCond .eq 7, 3) := by decide +kernel
theorem d_X12_letterRead_44 : decode cX12_letterRead 44 = .ok (.iconst 1, 1) := by decide +kernel
theorem d_X12_letterRead_45 : decode cX12_letterRead 45 = .ok (.goto 4, 3) := by decide +kernel
theorem d_X12_letterRead_48 : decode cX12_letterRead 48 = .ok (.iconst 0, 1) := by decide +kernel
theorem d_X12_letterRead_49 : decode cX12_letterRead 49 = .ok (.istore_n 2, 1) := by decide +kernel
theorem d_X12_letterRead_50 : decode cX12_letterRead 50 = .ok (.aload_n 0, 1) := by decide +kernel
theorem d_X12_letterRead_51 : decode cX12_letterRead 51 = .ok (.getfield 69, 3) := by decide +kernel
theorem d_X12_letterRead_54 : decode cX12_letterRead 54 = .ok (.ifCond .ne 12, 3) := by decide +kernel
theorem d_X12_letterRead_57 : decode cX12_letterRead 57 = .ok (.iload_n 2, 1) := by decide +kernel
theorem d_X12_letterRead_58 : decode cX12_letterRead 58 = .ok (.ifCond .ne 8, 3) := by decide +kernel
theorem d_X12_letterRead_61 : decode cX12_letterRead 61 = .ok (.aload_n 0, 1) := by decide +kernel
theorem d_X12_letterRead_62 : decode cX12_letterRead 62 = .ok (.iconst 2, 1) := by decide +kernel
theorem d_X12_letterRead_63 : decode cX12_letterRead 63 = .ok (.invokevirtual 99, 3) := by decide +kernel
theorem d_X12_letterRead_66 : decode cX12_letterRead 66 = .ok (.aload_n 0, 1) := by decide +kernel
theorem d_X12_letterRead_67 : decode cX12_letterRead 67 = .ok (.getfield 69, 3) := by decide +kernel
theorem d_X12_letterRead_70 : decode cX12_letterRead 70 = .ok (.ifCond .ne 16, 3) := by decide +kernel
theorem d_X12_letterRead_73 : decode cX12_letterRead 73 = .ok (.aload_n 0, 1) := by decide +kernel
theorem d_X12_letterRead_74 : decode cX12_letterRead 74 = .ok (.aload_n 0, 1) := by decide +kernel
theorem d_X12_letterRead_75 : decode cX12_letterRead 75 = .ok (.getfield 72, 3) := by decide +kernel
theorem d_X12_letterRead_78 : decode cX12_letterRead 78 = .ok (.invokevirtual 84, 3) := by decide +kernel
theorem d_X12_letterRead_81 : decode cX12_letterRead 81 = .ok (.iload_n 1, 1) := by decide +kernel
theorem d_X12_letterRead_82 : decode cX12_letterRead 82 = .ok (.isub, 1) := by decide +kernel
theorem d_X12_letterRead_83 : decode cX12_letterRead 83 = .ok (.goto 4, 3) := by decide +kernel
theorem d_X12_letterRead_86 : decode cX12_letterRead 86 = .ok (.iconst 0, 1) := by decide +kernel
theorem d_X12_letterRead_87 : decode cX12_letterRead 87 = .ok (.ireturn, 1) := by decide +kernel
theorem b_X12_letterRead_0 {X : cX} {d : Nat} {μ : mM} {K : Option Value → mM → Prop} {r0 : Nat} {l1 : Int32} {j0 : Nat} (hw12_r0 : WF12 μ r0) (h : ¬ (iv μ r0 12) = (1 : Int32) → G X (Rm (d + 1)) mX12_letterRead 48 [(0, .ref r0), (1, .int l1)] [] μ 0 0 K) (h_2 : (iv μ r0 12) = (1 : Int32) → ¬ ((iv μ r0 10) - (iv μ r0 11)) = (1 : Int32) → G X (Rm (d + 1)) mX12_letterRead 48 [(0, .ref r0), (1, .int l1)] [] μ 0 0 K) (hi_j0 : (iv μ r0 12) = (1 : Int32) → ((iv μ r0 10) - (iv μ r0 11)) = (1 : Int32) → iv μ r0 11 = nI j0) (hs : (iv μ r0 12) = (1 : Int32) → ((iv μ r0 10) - (iv μ r0 11)) = (1 : Int32) → (¬ (iv μ r0 6) ≤ (nI j0) → j0 < 320)) (h_3 : (iv μ r0 12) = (1 : Int32) → ((iv μ r0 10) - (iv μ r0 11)) = (1 : Int32) → (e_X12_in μ ((e_X12_byteAt μ r0 j0).toInt64) l1.toInt64 (l1.toInt64 + 2)) = 0 → G X (Rm (d + 1)) mX12_letterRead 48 [(0, .ref r0), (1, .int l1)] [] μ 0 0 K) (h_4 : (iv μ r0 12) = (1 : Int32) → ((iv μ r0 10) - (iv μ r0 11)) = (1 : Int32) → ¬ (e_X12_in μ ((e_X12_byteAt μ r0 j0).toInt64) l1.toInt64 (l1.toInt64 + 2)) = 0 → G X (Rm (d + 1)) mX12_letterRead 49 [(0, .ref r0), (1, .int l1)] [.int 1] μ 0 0 K) : G X (Rm (d + 1)) mX12_letterRead 0 [(0, .ref r0), (1, .int l1)] [] μ 0 0 K := by
  refine G_aload_n d_X12_letterRead_0 rfl 0 rfl ?_
  refine G_getI 12 12 (w12_kd hw12_r0) cok12 (by decide) rfl fl_X12_78 d_X12_letterRead_1 ?_
  refine G_iconst d_X12_letterRead_4 ic_1 ?_
  refine G_icmp_ne (tgt := 48) d_X12_letterRead_5 rfl (fun c0 => ?_) (fun c0 => ?_)
  ·
    exact (h c0)
  ·
    refine G_aload_n d_X12_letterRead_8 rfl 0 rfl ?_
    refine G_getI 12 10 (w12_kd hw12_r0) cok12 (by decide) rfl fl_X12_81 d_X12_letterRead_9 ?_
    refine G_aload_n d_X12_letterRead_12 rfl 0 rfl ?_
    refine G_getI 12 11 (w12_kd hw12_r0) cok12 (by decide) rfl fl_X12_72 d_X12_letterRead_13 ?_
    refine G_isub d_X12_letterRead_16 ?_
    refine G_iconst d_X12_letterRead_17 ic_1 ?_
    refine G_icmp_ne (tgt := 48) d_X12_letterRead_18 rfl (fun c1 => ?_) (fun c1 => ?_)
    ·
      exact (h_2 c0 c1)
    ·
      refine G_aload_n d_X12_letterRead_21 rfl 0 rfl ?_
      refine G_aload_n d_X12_letterRead_22 rfl 0 rfl ?_
      refine G_getI 12 11 (w12_kd hw12_r0) cok12 (by decide) rfl fl_X12_72 d_X12_letterRead_23 ?_
      refine G_stk (S' := [.int (nI j0), .ref r0]) (by rw [(hi_j0 c0 c1)]) ?_
      refine G_callV (M' := mX12_byteAt) (R' := (Rm d)) (S := []) [.int (nI j0)] 12 (w12_kd hw12_r0) cok12 rfl ok_X12_byteAt ml_X12_84 pn_X12_byteAt (ru_Rm (by decide)) (Nat.le_of_ble_eq_true rfl) d_X12_letterRead_26 (s_X12_byteAt (μ := μ) (i1 := j0) hw12_r0 (hs c0 c1) ?_)
      show G X (Rm (d + 1)) mX12_letterRead 29 [(0, .ref r0), (1, .int l1)] [.int (e_X12_byteAt μ r0 j0)] μ 0 0 K
      refine G_i2l (v := (e_X12_byteAt μ r0 j0).toInt64) d_X12_letterRead_29 rfl ?_
      refine G_iload_n d_X12_letterRead_30 rfl 1 rfl ?_
      refine G_i2l (v := l1.toInt64) d_X12_letterRead_31 rfl ?_
      refine G_iload_n d_X12_letterRead_32 rfl 1 rfl ?_
      refine G_i2l (v := l1.toInt64) d_X12_letterRead_33 rfl ?_
      refine G_ldc2 kl_X12_103 d_X12_letterRead_34 ?_
      refine G_ladd d_X12_letterRead_37 ?_
      refine G_callS (M' := mX12_in) (R' := (Rm d)) (S := []) [.long ((e_X12_byteAt μ r0 j0).toInt64), .long l1.toInt64, .long (l1.toInt64 + 2)] ok_X12_in ml_X12_61 pn_X12_in (ru_Rm (by decide)) (Nat.le_of_ble_eq_true rfl) d_X12_letterRead_38 (s_X12_in (μ := μ)   ?_)
      show G X (Rm (d + 1)) mX12_letterRead 41 [(0, .ref r0), (1, .int l1)] [.int (e_X12_in μ ((e_X12_byteAt μ r0 j0).toInt64) l1.toInt64 (l1.toInt64 + 2))] μ 0 0 K
      refine G_if_eq (tgt := 48) d_X12_letterRead_41 rfl (fun c2 => ?_) (fun c2 => ?_)
      ·
        exact (h_3 c0 c1 c2)
      ·
        refine G_iconst d_X12_letterRead_44 ic_1 ?_
        refine G_goto (tgt := 49) d_X12_letterRead_45 rfl ?_
        exact (h_4 c0 c1 c2)
theorem b_X12_letterRead_48 {X : cX} {d : Nat} {μ : mM} {K : Option Value → mM → Prop} {r0 : Nat} {l1 : Int32} (h : G X (Rm (d + 1)) mX12_letterRead 49 [(0, .ref r0), (1, .int l1)] [.int 0] μ 0 0 K) : G X (Rm (d + 1)) mX12_letterRead 48 [(0, .ref r0), (1, .int l1)] [] μ 0 0 K := by
  refine G_iconst d_X12_letterRead_48 ic_0 ?_
  exact h
theorem b_X12_letterRead_49 {X : cX} {d : Nat} {μ : mM} {K : Option Value → mM → Prop} {r0 : Nat} {l1 : Int32} {v0 : Int32} (hw12_r0 : WF12 μ r0) (h : ¬ (iv μ r0 8) = 0 → G X (Rm (d + 1)) mX12_letterRead 66 [(0, .ref r0), (1, .int l1)] [] μ 0 0 K) (h_2 : (iv μ r0 8) = 0 → ¬ v0 = 0 → G X (Rm (d + 1)) mX12_letterRead 66 [(0, .ref r0), (1, .int l1)] [] μ 0 0 K) (hc_fails : (iv μ r0 8) = 0 → v0 = 0 → Ct X (Rm d) mX12_fails [.ref r0, .int 2] μ (fun r μ2 => G X (Rm (d + 1)) mX12_letterRead 66 [(0, .ref r0), (1, .int l1)] (r.toList ++ []) μ2 0 0 K)) : G X (Rm (d + 1)) mX12_letterRead 49 [(0, .ref r0), (1, .int l1)] [.int v0] μ 0 0 K := by
  refine G_istore_n (L' := [(2, .int v0), (0, .ref r0), (1, .int l1)]) d_X12_letterRead_49 rfl (by decide) rfl ?_
  refine G_aload_n d_X12_letterRead_50 rfl 1 rfl ?_
  refine G_getI 12 8 (w12_kd hw12_r0) cok12 (by decide) rfl fl_X12_69 d_X12_letterRead_51 ?_
  refine G_if_ne (tgt := 66) d_X12_letterRead_54 rfl (fun c0 => ?_) (fun c0 => ?_)
  ·
    refine G_sub (L' := [(0, .ref r0), (1, .int l1)]) [1, 2] rfl ?_
    exact (h c0)
  ·
    refine G_iload_n d_X12_letterRead_57 rfl 0 rfl ?_
    refine G_if_ne (tgt := 66) d_X12_letterRead_58 rfl (fun c1 => ?_) (fun c1 => ?_)
    ·
      refine G_sub (L' := [(0, .ref r0), (1, .int l1)]) [1, 2] rfl ?_
      exact (h_2 c0 c1)
    ·
      refine G_aload_n d_X12_letterRead_61 rfl 1 rfl ?_
      refine G_iconst d_X12_letterRead_62 ic_2 ?_
      refine G_sub (L' := [(0, .ref r0), (1, .int l1)]) [1, 2] rfl ?_
      refine G_callV (M' := mX12_fails) (R' := (Rm d)) (S := []) [.int 2] 12 (w12_kd hw12_r0) cok12 rfl ok_X12_fails ml_X12_99 pn_X12_fails (ru_Rm (by decide)) (Nat.le_of_ble_eq_true rfl) d_X12_letterRead_63 ?_
      exact (hc_fails c0 c1)
theorem b_X12_letterRead_66 {X : cX} {d : Nat} {μ : mM} {K : Option Value → mM → Prop} {r0 : Nat} {l1 : Int32} {j0 : Nat} (hw12_r0 : WF12 μ r0) (hK : ¬ (iv μ r0 8) = 0 → K (some (.int 0)) μ) (hi_j0 : (iv μ r0 8) = 0 → iv μ r0 11 = nI j0) (hs : (iv μ r0 8) = 0 → (¬ (iv μ r0 6) ≤ (nI j0) → j0 < 320)) (hK_2 : (iv μ r0 8) = 0 → K (some (.int ((e_X12_byteAt μ r0 j0) - l1))) μ) : G X (Rm (d + 1)) mX12_letterRead 66 [(0, .ref r0), (1, .int l1)] [] μ 0 0 K := by
  refine G_aload_n d_X12_letterRead_66 rfl 0 rfl ?_
  refine G_getI 12 8 (w12_kd hw12_r0) cok12 (by decide) rfl fl_X12_69 d_X12_letterRead_67 ?_
  refine G_if_ne (tgt := 86) d_X12_letterRead_70 rfl (fun c0 => ?_) (fun c0 => ?_)
  ·
    refine G_iconst d_X12_letterRead_86 ic_0 ?_
    exact G_iret rfl rfl rfl d_X12_letterRead_87 (hK c0)
  ·
    refine G_aload_n d_X12_letterRead_73 rfl 0 rfl ?_
    refine G_aload_n d_X12_letterRead_74 rfl 0 rfl ?_
    refine G_getI 12 11 (w12_kd hw12_r0) cok12 (by decide) rfl fl_X12_72 d_X12_letterRead_75 ?_
    refine G_stk (S' := [.int (nI j0), .ref r0]) (by rw [(hi_j0 c0)]) ?_
    refine G_callV (M' := mX12_byteAt) (R' := (Rm d)) (S := []) [.int (nI j0)] 12 (w12_kd hw12_r0) cok12 rfl ok_X12_byteAt ml_X12_84 pn_X12_byteAt (ru_Rm (by decide)) (Nat.le_of_ble_eq_true rfl) d_X12_letterRead_78 (s_X12_byteAt (μ := μ) (i1 := j0) hw12_r0 (hs c0) ?_)
    show G X (Rm (d + 1)) mX12_letterRead 81 [(0, .ref r0), (1, .int l1)] [.int (e_X12_byteAt μ r0 j0)] μ 0 0 K
    refine G_iload_n d_X12_letterRead_81 rfl 1 rfl ?_
    refine G_isub d_X12_letterRead_82 ?_
    refine G_goto (tgt := 87) d_X12_letterRead_83 rfl ?_
    exact G_iret rfl rfl rfl d_X12_letterRead_87 (hK_2 c0)
theorem d_X12_variableRead_0 : decode cX12_variableRead 0 = .ok (.aload_n 0, 1) := by decide +kernel
theorem d_X12_variableRead_1 : decode cX12_variableRead 1 = .ok (.bipush 120, 2) := by decide +kernel
theorem d_X12_variableRead_3 : decode cX12_variableRead 3 = .ok (.invokevirtual 105, 3) := by decide +kernel
theorem d_X12_variableRead_6 : decode cX12_variableRead 6 = .ok (.istore_n 1, 1) := by decide +kernel
theorem d_X12_variableRead_7 : decode cX12_variableRead 7 = .ok (.aload_n 0, 1) := by decide +kernel
theorem d_X12_variableRead_8 : decode cX12_variableRead 8 = .ok (.invokevirtual 108, 3) := by decide +kernel
theorem d_X12_variableRead_11 : decode cX12_variableRead 11 = .ok (.iload_n 1, 1) := by decide +kernel
theorem d_X12_variableRead_12 : decode cX12_variableRead 12 = .ok (.ireturn, 1) := by decide +kernel
theorem b_X12_variableRead_0 {X : cX} {d : Nat} {μ : mM} {K : Option Value → mM → Prop} {r0 : Nat} (hw12_r0 : WF12 μ r0) (hc_letterRead : Ct X (Rm (d + 1)) mX12_letterRead [.ref r0, .int 120] μ (fun r μ2 => G X (Rm (d + 2)) mX12_variableRead 6 [(0, .ref r0)] (r.toList ++ []) μ2 0 0 K)) : G X (Rm (d + 2)) mX12_variableRead 0 [(0, .ref r0)] [] μ 0 0 K := by
  refine G_aload_n d_X12_variableRead_0 rfl 0 rfl ?_
  refine G_bipush d_X12_variableRead_1 bp_120 ?_
  refine G_callV (M' := mX12_letterRead) (R' := (Rm (d + 1))) (S := []) [.int 120] 12 (w12_kd hw12_r0) cok12 rfl ok_X12_letterRead ml_X12_105 pn_X12_letterRead (ru_Rm (by decide)) (Nat.le_of_ble_eq_true rfl) d_X12_variableRead_3 ?_
  exact hc_letterRead
theorem b_X12_variableRead_6 {X : cX} {d : Nat} {μ : mM} {K : Option Value → mM → Prop} {r0 : Nat} {v0 : Int32} (hw12_r0 : WF12 μ r0) (hc_readsOn : Ct X (Rm (d + 1)) mX12_readsOn [.ref r0] μ (fun r μ2 => G X (Rm (d + 2)) mX12_variableRead 11 [(1, .int v0)] (r.toList ++ []) μ2 0 0 K)) : G X (Rm (d + 2)) mX12_variableRead 6 [(0, .ref r0)] [.int v0] μ 0 0 K := by
  refine G_istore_n (L' := [(1, .int v0), (0, .ref r0)]) d_X12_variableRead_6 rfl (by decide) rfl ?_
  refine G_aload_n d_X12_variableRead_7 rfl 1 rfl ?_
  refine G_sub (L' := [(1, .int v0)]) [0] rfl ?_
  refine G_callV (M' := mX12_readsOn) (R' := (Rm (d + 1))) (S := []) [] 12 (w12_kd hw12_r0) cok12 rfl ok_X12_readsOn ml_X12_108 pn_X12_readsOn (ru_Rm (by decide)) (Nat.le_of_ble_eq_true rfl) d_X12_variableRead_8 ?_
  exact hc_readsOn
theorem b_X12_variableRead_11 {X : cX} {d : Nat} {μ : mM} {K : Option Value → mM → Prop} {l1 : Int32} (hK : K (some (.int l1)) μ) : G X (Rm (d + 2)) mX12_variableRead 11 [(1, .int l1)] [] μ 0 0 K := by
  refine G_iload_n d_X12_variableRead_11 rfl 0 rfl ?_
  exact G_iret rfl rfl rfl d_X12_variableRead_12 hK
theorem d_X12_nodeRead_0 : decode cX12_nodeRead 0 = .ok (.aload_n 0, 1) := by decide +kernel
theorem d_X12_nodeRead_1 : decode cX12_nodeRead 1 = .ok (.getfield 69, 3) := by decide +kernel
theorem d_X12_nodeRead_4 : decode cX12_nodeRead 4 = .ok (.ifCond .ne 16, 3) := by decide +kernel
theorem d_X12_nodeRead_7 : decode cX12_nodeRead 7 = .ok (.aload_n 0, 1) := by decide +kernel
theorem d_X12_nodeRead_8 : decode cX12_nodeRead 8 = .ok (.getfield 78, 3) := by decide +kernel
theorem d_X12_nodeRead_11 : decode cX12_nodeRead 11 = .ok (.iconst 2, 1) := by decide +kernel
theorem d_X12_nodeRead_12 : decode cX12_nodeRead 12 = .ok (.if_icmp .eq 8, 3) := by decide +kernel
theorem d_X12_nodeRead_15 : decode cX12_nodeRead 15 = .ok (.aload_n 0, 1) := by decide +kernel
theorem d_X12_nodeRead_16 : decode cX12_nodeRead 16 = .ok (.iconst 2, 1) := by decide +kernel
theorem d_X12_nodeRead_17 : decode cX12_nodeRead 17 = .ok (.invokevirtual 99, 3) := by decide +kernel
theorem d_X12_nodeRead_20 : decode cX12_nodeRead 20 = .ok (.aload_n 0, 1) := by decide +kernel
theorem d_X12_nodeRead_21 : decode cX12_nodeRead 21 = .ok (.getfield 69, 3) := by decide +kernel
theorem d_X12_nodeRead_24 : decode cX12_nodeRead 24 = .ok (.ifCond .ne 17, 3) := by decide +kernel
theorem d_X12_nodeRead_27 : decode cX12_nodeRead 27 = .ok (.aload_n 0, 1) := by decide +kernel
theorem d_X12_nodeRead_28 : decode cX12_nodeRead 28 = .ok (.getfield 88, 3) := by decide +kernel
theorem d_X12_nodeRead_31 : decode cX12_nodeRead 31 = .ok (.bipush 6, 2) := by decide +kernel
theorem d_X12_nodeRead_33 : decode cX12_nodeRead 33 = .ok (.if_icmp .lt 8, 3) := by decide +kernel
theorem d_X12_nodeRead_36 : decode cX12_nodeRead 36 = .ok (.aload_n 0, 1) := by decide +kernel
theorem d_X12_nodeRead_37 : decode cX12_nodeRead 37 = .ok (.iconst 3, 1) := by decide +kernel
theorem d_X12_nodeRead_38 : decode cX12_nodeRead 38 = .ok (.invokevirtual 99, 3) := by decide +kernel
theorem d_X12_nodeRead_41 : decode cX12_nodeRead 41 = .ok (.aload_n 0, 1) := by decide +kernel
theorem d_X12_nodeRead_42 : decode cX12_nodeRead 42 = .ok (.getfield 69, 3) := by decide +kernel
theorem d_X12_nodeRead_45 : decode cX12_nodeRead 45 = .ok (.ifCond .ne 10, 3) := by decide +kernel
theorem d_X12_nodeRead_48 : decode cX12_nodeRead 48 = .ok (.aload_n 0, 1) := by decide +kernel
theorem d_X12_nodeRead_49 : decode cX12_nodeRead 49 = .ok (.getfield 88, 3) := by decide +kernel
theorem d_X12_nodeRead_52 : decode cX12_nodeRead 52 = .ok (.goto 4, 3) := by decide +kernel
theorem d_X12_nodeRead_55 : decode cX12_nodeRead 55 = .ok (.iconst 0, 1) := by decide +kernel
theorem d_X12_nodeRead_56 : decode cX12_nodeRead 56 = .ok (.istore_n 1, 1) := by decide +kernel
theorem d_X12_nodeRead_57 : decode cX12_nodeRead 57 = .ok (.aload_n 0, 1) := by decide +kernel
theorem d_X12_nodeRead_58 : decode cX12_nodeRead 58 = .ok (.iload_n 1, 1) := by decide +kernel
theorem d_X12_nodeRead_59 : decode cX12_nodeRead 59 = .ok (.iconst 1, 1) := by decide +kernel
theorem d_X12_nodeRead_60 : decode cX12_nodeRead 60 = .ok (.iadd, 1) := by decide +kernel
theorem d_X12_nodeRead_61 : decode cX12_nodeRead 61 = .ok (.aload_n 0, 1) := by decide +kernel
theorem d_X12_nodeRead_62 : decode cX12_nodeRead 62 = .ok (.getfield 111, 3) := by decide +kernel
theorem d_X12_nodeRead_65 : decode cX12_nodeRead 65 = .ok (.if_icmp .le 16, 3) := by decide +kernel
theorem d_X12_nodeRead_68 : decode cX12_nodeRead 68 = .ok (.aload_n 0, 1) := by decide +kernel
theorem d_X12_nodeRead_69 : decode cX12_nodeRead 69 = .ok (.getfield 69, 3) := by decide +kernel
theorem d_X12_nodeRead_72 : decode cX12_nodeRead 72 = .ok (.ifCond .ne 9, 3) := by decide +kernel
theorem d_X12_nodeRead_75 : decode cX12_nodeRead 75 = .ok (.iload_n 1, 1) := by decide +kernel
theorem d_X12_nodeRead_76 : decode cX12_nodeRead 76 = .ok (.iconst 1, 1) := by decide +kernel
theorem d_X12_nodeRead_77 : decode cX12_nodeRead 77 = .ok (.iadd, 1) := by decide +kernel
theorem d_X12_nodeRead_78 : decode cX12_nodeRead 78 = .ok (.goto 7, 3) := by decide +kernel
theorem d_X12_nodeRead_81 : decode cX12_nodeRead 81 = .ok (.aload_n 0, 1) := by decide +kernel
theorem d_X12_nodeRead_82 : decode cX12_nodeRead 82 = .ok (.getfield 111, 3) := by decide +kernel
theorem d_X12_nodeRead_85 : decode cX12_nodeRead 85 = .ok (.putfield 111, 3) := by decide +kernel
theorem d_X12_nodeRead_88 : decode cX12_nodeRead 88 = .ok (.aload_n 0, 1) := by decide +kernel
theorem d_X12_nodeRead_89 : decode cX12_nodeRead 89 = .ok (.invokevirtual 108, 3) := by decide +kernel
theorem d_X12_nodeRead_92 : decode cX12_nodeRead 92 = .ok (.iload_n 1, 1) := by decide +kernel
theorem d_X12_nodeRead_93 : decode cX12_nodeRead 93 = .ok (.ireturn, 1) := by decide +kernel
theorem b_X12_nodeRead_0 {X : cX} {d : Nat} {μ : mM} {K : Option Value → mM → Prop} {r0 : Nat} (hw12_r0 : WF12 μ r0) (h : ¬ (iv μ r0 8) = 0 → G X (Rm (d + 2)) mX12_nodeRead 20 [(0, .ref r0)] [] μ 0 0 K) (h_2 : (iv μ r0 8) = 0 → (iv μ r0 12) = (2 : Int32) → G X (Rm (d + 2)) mX12_nodeRead 20 [(0, .ref r0)] [] μ 0 0 K) (hc_fails : (iv μ r0 8) = 0 → ¬ (iv μ r0 12) = (2 : Int32) → Ct X (Rm (d + 1)) mX12_fails [.ref r0, .int 2] μ (fun r μ2 => G X (Rm (d + 2)) mX12_nodeRead 20 [(0, .ref r0)] (r.toList ++ []) μ2 0 0 K)) : G X (Rm (d + 2)) mX12_nodeRead 0 [(0, .ref r0)] [] μ 0 0 K := by
  refine G_aload_n d_X12_nodeRead_0 rfl 0 rfl ?_
  refine G_getI 12 8 (w12_kd hw12_r0) cok12 (by decide) rfl fl_X12_69 d_X12_nodeRead_1 ?_
  refine G_if_ne (tgt := 20) d_X12_nodeRead_4 rfl (fun c0 => ?_) (fun c0 => ?_)
  ·
    exact (h c0)
  ·
    refine G_aload_n d_X12_nodeRead_7 rfl 0 rfl ?_
    refine G_getI 12 12 (w12_kd hw12_r0) cok12 (by decide) rfl fl_X12_78 d_X12_nodeRead_8 ?_
    refine G_iconst d_X12_nodeRead_11 ic_2 ?_
    refine G_icmp_eq (tgt := 20) d_X12_nodeRead_12 rfl (fun c1 => ?_) (fun c1 => ?_)
    ·
      exact (h_2 c0 c1)
    ·
      refine G_aload_n d_X12_nodeRead_15 rfl 0 rfl ?_
      refine G_iconst d_X12_nodeRead_16 ic_2 ?_
      refine G_callV (M' := mX12_fails) (R' := (Rm (d + 1))) (S := []) [.int 2] 12 (w12_kd hw12_r0) cok12 rfl ok_X12_fails ml_X12_99 pn_X12_fails (ru_Rm (by decide)) (Nat.le_of_ble_eq_true rfl) d_X12_nodeRead_17 ?_
      exact (hc_fails c0 c1)
theorem b_X12_nodeRead_20 {X : cX} {d : Nat} {μ : mM} {K : Option Value → mM → Prop} {r0 : Nat} (hw12_r0 : WF12 μ r0) (h : ¬ (iv μ r0 8) = 0 → G X (Rm (d + 2)) mX12_nodeRead 41 [(0, .ref r0)] [] μ 0 0 K) (h_2 : (iv μ r0 8) = 0 → (iv μ r0 13) < (6 : Int32) → G X (Rm (d + 2)) mX12_nodeRead 41 [(0, .ref r0)] [] μ 0 0 K) (hc_fails : (iv μ r0 8) = 0 → ¬ (iv μ r0 13) < (6 : Int32) → Ct X (Rm (d + 1)) mX12_fails [.ref r0, .int 3] μ (fun r μ2 => G X (Rm (d + 2)) mX12_nodeRead 41 [(0, .ref r0)] (r.toList ++ []) μ2 0 0 K)) : G X (Rm (d + 2)) mX12_nodeRead 20 [(0, .ref r0)] [] μ 0 0 K := by
  refine G_aload_n d_X12_nodeRead_20 rfl 0 rfl ?_
  refine G_getI 12 8 (w12_kd hw12_r0) cok12 (by decide) rfl fl_X12_69 d_X12_nodeRead_21 ?_
  refine G_if_ne (tgt := 41) d_X12_nodeRead_24 rfl (fun c0 => ?_) (fun c0 => ?_)
  ·
    exact (h c0)
  ·
    refine G_aload_n d_X12_nodeRead_27 rfl 0 rfl ?_
    refine G_getI 12 13 (w12_kd hw12_r0) cok12 (by decide) rfl fl_X12_88 d_X12_nodeRead_28 ?_
    refine G_bipush d_X12_nodeRead_31 bp_6 ?_
    refine G_icmp_lt (tgt := 41) d_X12_nodeRead_33 rfl (fun c1 => ?_) (fun c1 => ?_)
    ·
      exact (h_2 c0 c1)
    ·
      refine G_aload_n d_X12_nodeRead_36 rfl 0 rfl ?_
      refine G_iconst d_X12_nodeRead_37 ic_3 ?_
      refine G_callV (M' := mX12_fails) (R' := (Rm (d + 1))) (S := []) [.int 3] 12 (w12_kd hw12_r0) cok12 rfl ok_X12_fails ml_X12_99 pn_X12_fails (ru_Rm (by decide)) (Nat.le_of_ble_eq_true rfl) d_X12_nodeRead_38 ?_
      exact (hc_fails c0 c1)
theorem b_X12_nodeRead_41 {X : cX} {d : Nat} {μ : mM} {K : Option Value → mM → Prop} {r0 : Nat} (hw12_r0 : WF12 μ r0) (h : ¬ (iv μ r0 8) = 0 → G X (Rm (d + 2)) mX12_nodeRead 56 [(0, .ref r0)] [.int 0] μ 0 0 K) (h_2 : (iv μ r0 8) = 0 → G X (Rm (d + 2)) mX12_nodeRead 56 [(0, .ref r0)] [.int (iv μ r0 13)] μ 0 0 K) : G X (Rm (d + 2)) mX12_nodeRead 41 [(0, .ref r0)] [] μ 0 0 K := by
  refine G_aload_n d_X12_nodeRead_41 rfl 0 rfl ?_
  refine G_getI 12 8 (w12_kd hw12_r0) cok12 (by decide) rfl fl_X12_69 d_X12_nodeRead_42 ?_
  refine G_if_ne (tgt := 55) d_X12_nodeRead_45 rfl (fun c0 => ?_) (fun c0 => ?_)
  ·
    refine G_iconst d_X12_nodeRead_55 ic_0 ?_
    exact (h c0)
  ·
    refine G_aload_n d_X12_nodeRead_48 rfl 0 rfl ?_
    refine G_getI 12 13 (w12_kd hw12_r0) cok12 (by decide) rfl fl_X12_88 d_X12_nodeRead_49 ?_
    refine G_goto (tgt := 56) d_X12_nodeRead_52 rfl ?_
    exact (h_2 c0)
theorem b_X12_nodeRead_56 {X : cX} {d : Nat} {μ : mM} {K : Option Value → mM → Prop} {r0 : Nat} {v0 : Int32} (hw12_r0 : WF12 μ r0) (h : (v0 + 1) ≤ (iv μ r0 14) → G X (Rm (d + 2)) mX12_nodeRead 81 [(0, .ref r0), (1, .int v0)] [.ref r0] μ 0 0 K) (h_2 : ¬ (v0 + 1) ≤ (iv μ r0 14) → ¬ (iv μ r0 8) = 0 → G X (Rm (d + 2)) mX12_nodeRead 81 [(0, .ref r0), (1, .int v0)] [.ref r0] μ 0 0 K) (h_3 : ¬ (v0 + 1) ≤ (iv μ r0 14) → (iv μ r0 8) = 0 → G X (Rm (d + 2)) mX12_nodeRead 85 [(0, .ref r0), (1, .int v0)] [.int (v0 + 1), .ref r0] μ 0 0 K) : G X (Rm (d + 2)) mX12_nodeRead 56 [(0, .ref r0)] [.int v0] μ 0 0 K := by
  refine G_istore_n (L' := [(1, .int v0), (0, .ref r0)]) d_X12_nodeRead_56 rfl (by decide) rfl ?_
  refine G_aload_n d_X12_nodeRead_57 rfl 1 rfl ?_
  refine G_iload_n d_X12_nodeRead_58 rfl 0 rfl ?_
  refine G_iconst d_X12_nodeRead_59 ic_1 ?_
  refine G_iadd d_X12_nodeRead_60 ?_
  refine G_aload_n d_X12_nodeRead_61 rfl 1 rfl ?_
  refine G_getI 12 14 (w12_kd hw12_r0) cok12 (by decide) rfl fl_X12_111 d_X12_nodeRead_62 ?_
  refine G_icmp_le (tgt := 81) d_X12_nodeRead_65 rfl (fun c0 => ?_) (fun c0 => ?_)
  ·
    refine G_sub (L' := [(0, .ref r0), (1, .int v0)]) [1, 0] rfl ?_
    exact (h c0)
  ·
    refine G_aload_n d_X12_nodeRead_68 rfl 1 rfl ?_
    refine G_getI 12 8 (w12_kd hw12_r0) cok12 (by decide) rfl fl_X12_69 d_X12_nodeRead_69 ?_
    refine G_if_ne (tgt := 81) d_X12_nodeRead_72 rfl (fun c1 => ?_) (fun c1 => ?_)
    ·
      refine G_sub (L' := [(0, .ref r0), (1, .int v0)]) [1, 0] rfl ?_
      exact (h_2 c0 c1)
    ·
      refine G_iload_n d_X12_nodeRead_75 rfl 0 rfl ?_
      refine G_iconst d_X12_nodeRead_76 ic_1 ?_
      refine G_iadd d_X12_nodeRead_77 ?_
      refine G_goto (tgt := 85) d_X12_nodeRead_78 rfl ?_
      refine G_sub (L' := [(0, .ref r0), (1, .int v0)]) [1, 0] rfl ?_
      exact (h_3 c0 c1)
theorem b_X12_nodeRead_81 {X : cX} {d : Nat} {μ : mM} {K : Option Value → mM → Prop} {r0 : Nat} {l1 : Int32} {q0 : Nat} (hw12_r0 : WF12 μ r0) (h : G X (Rm (d + 2)) mX12_nodeRead 85 [(0, .ref r0), (1, .int l1)] [.int (iv μ r0 14), .ref q0] μ 0 0 K) : G X (Rm (d + 2)) mX12_nodeRead 81 [(0, .ref r0), (1, .int l1)] [.ref q0] μ 0 0 K := by
  refine G_aload_n d_X12_nodeRead_81 rfl 0 rfl ?_
  refine G_getI 12 14 (w12_kd hw12_r0) cok12 (by decide) rfl fl_X12_111 d_X12_nodeRead_82 ?_
  exact h
theorem b_X12_nodeRead_85 {X : cX} {d : Nat} {μ : mM} {K : Option Value → mM → Prop} {r0 : Nat} {l1 : Int32} {q0 : Nat} {v1 : Int32} (hw12_q0 : WF12 μ q0) (hw12_r0 : WF12 μ r0) (hc_readsOn : Ct X (Rm (d + 1)) mX12_readsOn [.ref r0] (wi μ q0 14 v1) (fun r μ2 => G X (Rm (d + 2)) mX12_nodeRead 92 [(1, .int l1)] (r.toList ++ []) μ2 0 0 K)) : G X (Rm (d + 2)) mX12_nodeRead 85 [(0, .ref r0), (1, .int l1)] [.int v1, .ref q0] μ 0 0 K := by
  refine G_putI 12 14 (w12_kd hw12_q0) rfl rfl cok12 (by decide) rfl (Or.inl rfl) fl_X12_111 d_X12_nodeRead_85 ?_
  refine G_aload_n d_X12_nodeRead_88 rfl 0 rfl ?_
  refine G_sub (L' := [(1, .int l1)]) [1] rfl ?_
  refine G_callV (M' := mX12_readsOn) (R' := (Rm (d + 1))) (S := []) [] 12 (w12_kd hw12_r0) cok12 rfl ok_X12_readsOn ml_X12_108 pn_X12_readsOn (ru_Rm (by decide)) (Nat.le_of_ble_eq_true rfl) d_X12_nodeRead_89 ?_
  exact hc_readsOn
theorem b_X12_nodeRead_92 {X : cX} {d : Nat} {μ : mM} {K : Option Value → mM → Prop} {l1 : Int32} (hK : K (some (.int l1)) μ) : G X (Rm (d + 2)) mX12_nodeRead 92 [(1, .int l1)] [] μ 0 0 K := by
  refine G_iload_n d_X12_nodeRead_92 rfl 0 rfl ?_
  exact G_iret rfl rfl rfl d_X12_nodeRead_93 hK
theorem d_X12_truthRead_0 : decode cX12_truthRead 0 = .ok (.aload_n 0, 1) := by decide +kernel
theorem d_X12_truthRead_1 : decode cX12_truthRead 1 = .ok (.getfield 69, 3) := by decide +kernel
theorem d_X12_truthRead_4 : decode cX12_truthRead 4 = .ok (.ifCond .ne 18, 3) := by decide +kernel
theorem d_X12_truthRead_7 : decode cX12_truthRead 7 = .ok (.aload_n 0, 1) := by decide +kernel
theorem d_X12_truthRead_8 : decode cX12_truthRead 8 = .ok (.invokevirtual 114, 3) := by decide +kernel
theorem d_X12_truthRead_11 : decode cX12_truthRead 11 = .ok (.bipush 10, 2) := by decide +kernel
theorem d_X12_truthRead_13 : decode cX12_truthRead 13 = .ok (.if_icmp .ne 9, 3) := by decide +kernel
theorem d_X12_truthRead_16 : decode cX12_truthRead 16 = .ok (.aload_n 0, 1) := by decide +kernel
theorem d_X12_truthRead_17 : decode cX12_truthRead 17 = .ok (.invokevirtual 108, 3) := by decide +kernel
theorem d_X12_truthRead_20 : decode cX12_truthRead 20 = .ok (.iconst 1, 1) := by decide +kernel
theorem d_X12_truthRead_21 : decode cX12_truthRead 21 = .ok (.ireturn, 1) := by decide +kernel
theorem d_X12_truthRead_22 : decode cX12_truthRead 22 = .ok (.iconst 2, 1) := by decide +kernel
theorem d_X12_truthRead_23 : decode cX12_truthRead 23 = .ok (.ireturn, 1) := by decide +kernel
theorem b_X12_truthRead_0 {X : cX} {d : Nat} {μ : mM} {K : Option Value → mM → Prop} {r0 : Nat} (hw12_r0 : WF12 μ r0) (hK : ¬ (iv μ r0 8) = 0 → K (some (.int 2)) μ) (hc_nameHere : (iv μ r0 8) = 0 → Ct X (Rm (d + 1)) mX12_nameHere [.ref r0] μ (fun r μ2 => G X (Rm (d + 2)) mX12_truthRead 11 [(0, .ref r0)] (r.toList ++ []) μ2 0 0 K)) : G X (Rm (d + 2)) mX12_truthRead 0 [(0, .ref r0)] [] μ 0 0 K := by
  refine G_aload_n d_X12_truthRead_0 rfl 0 rfl ?_
  refine G_getI 12 8 (w12_kd hw12_r0) cok12 (by decide) rfl fl_X12_69 d_X12_truthRead_1 ?_
  refine G_if_ne (tgt := 22) d_X12_truthRead_4 rfl (fun c0 => ?_) (fun c0 => ?_)
  ·
    refine G_iconst d_X12_truthRead_22 ic_2 ?_
    exact G_iret rfl rfl rfl d_X12_truthRead_23 (hK c0)
  ·
    refine G_aload_n d_X12_truthRead_7 rfl 0 rfl ?_
    refine G_callV (M' := mX12_nameHere) (R' := (Rm (d + 1))) (S := []) [] 12 (w12_kd hw12_r0) cok12 rfl ok_X12_nameHere ml_X12_114 pn_X12_nameHere (ru_Rm (by decide)) (Nat.le_of_ble_eq_true rfl) d_X12_truthRead_8 ?_
    exact (hc_nameHere c0)
theorem b_X12_truthRead_11 {X : cX} {d : Nat} {μ : mM} {K : Option Value → mM → Prop} {r0 : Nat} {v0 : Int32} (hK : ¬ v0 = (10 : Int32) → K (some (.int 2)) μ) (hw12_r0 : WF12 μ r0) (hc_readsOn : v0 = (10 : Int32) → Ct X (Rm (d + 1)) mX12_readsOn [.ref r0] μ (fun r μ2 => G X (Rm (d + 2)) mX12_truthRead 20 [] (r.toList ++ []) μ2 0 0 K)) : G X (Rm (d + 2)) mX12_truthRead 11 [(0, .ref r0)] [.int v0] μ 0 0 K := by
  refine G_bipush d_X12_truthRead_11 bp_10 ?_
  refine G_icmp_ne (tgt := 22) d_X12_truthRead_13 rfl (fun c0 => ?_) (fun c0 => ?_)
  ·
    refine G_iconst d_X12_truthRead_22 ic_2 ?_
    exact G_iret rfl rfl rfl d_X12_truthRead_23 (hK c0)
  ·
    refine G_aload_n d_X12_truthRead_16 rfl 0 rfl ?_
    refine G_sub (L' := []) [] rfl ?_
    refine G_callV (M' := mX12_readsOn) (R' := (Rm (d + 1))) (S := []) [] 12 (w12_kd hw12_r0) cok12 rfl ok_X12_readsOn ml_X12_108 pn_X12_readsOn (ru_Rm (by decide)) (Nat.le_of_ble_eq_true rfl) d_X12_truthRead_17 ?_
    exact (hc_readsOn c0)
theorem b_X12_truthRead_20 {X : cX} {d : Nat} {μ : mM} {K : Option Value → mM → Prop}  (hK : K (some (.int 1)) μ) : G X (Rm (d + 2)) mX12_truthRead 20 [] [] μ 0 0 K := by
  refine G_iconst d_X12_truthRead_20 ic_1 ?_
  exact G_iret rfl rfl rfl d_X12_truthRead_21 hK
theorem d_X12_readNode_0 : decode cX12_readNode 0 = .ok (.aload_n 0, 1) := by decide +kernel
theorem d_X12_readNode_1 : decode cX12_readNode 1 = .ok (.getfield 7, 3) := by decide +kernel
theorem d_X12_readNode_4 : decode cX12_readNode 4 = .ok (.sipush 243, 3) := by decide +kernel
theorem d_X12_readNode_7 : decode cX12_readNode 7 = .ok (.iaload, 1) := by decide +kernel
theorem d_X12_readNode_8 : decode cX12_readNode 8 = .ok (.istore_n 2, 1) := by decide +kernel
theorem d_X12_readNode_9 : decode cX12_readNode 9 = .ok (.iload_n 2, 1) := by decide +kernel
theorem d_X12_readNode_10 : decode cX12_readNode 10 = .ok (.bipush 6, 2) := by decide +kernel
theorem d_X12_readNode_12 : decode cX12_readNode 12 = .ok (.if_icmp .ne 9, 3) := by decide +kernel
theorem d_X12_readNode_15 : decode cX12_readNode 15 = .ok (.aload_n 0, 1) := by decide +kernel
theorem d_X12_readNode_16 : decode cX12_readNode 16 = .ok (.iconst 5, 1) := by decide +kernel
theorem d_X12_readNode_17 : decode cX12_readNode 17 = .ok (.invokevirtual 99, 3) := by decide +kernel
theorem d_X12_readNode_20 : decode cX12_readNode 20 = .ok (.return_, 1) := by decide +kernel
theorem d_X12_readNode_21 : decode cX12_readNode 21 = .ok (.aload_n 0, 1) := by decide +kernel
theorem d_X12_readNode_22 : decode cX12_readNode 22 = .ok (.invokevirtual 108, 3) := by decide +kernel
theorem d_X12_readNode_25 : decode cX12_readNode 25 = .ok (.aload_n 0, 1) := by decide +kernel
theorem d_X12_readNode_26 : decode cX12_readNode 26 = .ok (.getfield 7, 3) := by decide +kernel
theorem d_X12_readNode_29 : decode cX12_readNode 29 = .ok (.sipush 183, 3) := by decide +kernel
theorem d_X12_readNode_32 : decode cX12_readNode 32 = .ok (.iload_n 2, 1) := by decide +kernel
theorem d_X12_readNode_33 : decode cX12_readNode 33 = .ok (.iadd, 1) := by decide +kernel
theorem d_X12_readNode_34 : decode cX12_readNode 34 = .ok (.iload_n 1, 1) := by decide +kernel
theorem d_X12_readNode_35 : decode cX12_readNode 35 = .ok (.iastore, 1) := by decide +kernel
theorem d_X12_readNode_36 : decode cX12_readNode 36 = .ok (.aload_n 0, 1) := by decide +kernel
theorem d_X12_readNode_37 : decode cX12_readNode 37 = .ok (.getfield 7, 3) := by decide +kernel
theorem d_X12_readNode_40 : decode cX12_readNode 40 = .ok (.sipush 243, 3) := by decide +kernel
theorem d_X12_readNode_43 : decode cX12_readNode 43 = .ok (.dup2, 1) := by decide +kernel
theorem d_X12_readNode_44 : decode cX12_readNode 44 = .ok (.iaload, 1) := by decide +kernel
theorem d_X12_readNode_45 : decode cX12_readNode 45 = .ok (.iconst 1, 1) := by decide +kernel
theorem d_X12_readNode_46 : decode cX12_readNode 46 = .ok (.iadd, 1) := by decide +kernel
theorem d_X12_readNode_47 : decode cX12_readNode 47 = .ok (.iastore, 1) := by decide +kernel
theorem d_X12_readNode_48 : decode cX12_readNode 48 = .ok (.return_, 1) := by decide +kernel
theorem b_X12_readNode_0 {X : cX} {d : Nat} {μ : mM} {K : Option Value → mM → Prop} {r0 : Nat} {l1 : Int32} (hw12_r0 : WF12 μ r0) (hc_readsOn : ¬ (iv μ (r0 + 1) 243) = (6 : Int32) → Ct X (Rm (d + 1)) mX12_readsOn [.ref r0] μ (fun r μ2 => G X (Rm (d + 2)) mX12_readNode 25 [(0, .ref r0), (1, .int l1), (2, .int (iv μ (r0 + 1) 243))] (r.toList ++ []) μ2 0 0 K)) (hc_fails : (iv μ (r0 + 1) 243) = (6 : Int32) → Ct X (Rm (d + 1)) mX12_fails [.ref r0, .int 5] μ (fun r μ2 => G X (Rm (d + 2)) mX12_readNode 20 [] (r.toList ++ []) μ2 0 0 K)) : G X (Rm (d + 2)) mX12_readNode 0 [(0, .ref r0), (1, .int l1)] [] μ 0 0 K := by
  refine G_aload_n d_X12_readNode_0 rfl 0 rfl ?_
  refine G_getR (r := r0 + 1) 12 0 (w12_kd hw12_r0) (w12_f0 hw12_r0) cok12 (by decide) rfl fl_X12_7 d_X12_readNode_1 ?_
  refine G_sipush d_X12_readNode_4 sp_243 ?_
  refine G_iald 243 (w12_k0 hw12_r0) rfl (by decide) d_X12_readNode_7 ?_
  refine G_istore_n (L' := [(2, .int (iv μ (r0 + 1) 243)), (0, .ref r0), (1, .int l1)]) d_X12_readNode_8 rfl (by decide) rfl ?_
  refine G_iload_n d_X12_readNode_9 rfl 0 rfl ?_
  refine G_bipush d_X12_readNode_10 bp_6 ?_
  refine G_icmp_ne (tgt := 21) d_X12_readNode_12 rfl (fun c0 => ?_) (fun c0 => ?_)
  ·
    refine G_aload_n d_X12_readNode_21 rfl 1 rfl ?_
    refine G_sub (L' := [(0, .ref r0), (1, .int l1), (2, .int (iv μ (r0 + 1) 243))]) [1, 2, 0] rfl ?_
    refine G_callV (M' := mX12_readsOn) (R' := (Rm (d + 1))) (S := []) [] 12 (w12_kd hw12_r0) cok12 rfl ok_X12_readsOn ml_X12_108 pn_X12_readsOn (ru_Rm (by decide)) (Nat.le_of_ble_eq_true rfl) d_X12_readNode_22 ?_
    exact (hc_readsOn c0)
  ·
    refine G_aload_n d_X12_readNode_15 rfl 1 rfl ?_
    refine G_iconst d_X12_readNode_16 ic_5 ?_
    refine G_sub (L' := []) [] rfl ?_
    refine G_callV (M' := mX12_fails) (R' := (Rm (d + 1))) (S := []) [.int 5] 12 (w12_kd hw12_r0) cok12 rfl ok_X12_fails ml_X12_99 pn_X12_fails (ru_Rm (by decide)) (Nat.le_of_ble_eq_true rfl) d_X12_readNode_17 ?_
    exact (hc_fails c0)
theorem b_X12_readNode_20 {X : cX} {d : Nat} {μ : mM} {K : Option Value → mM → Prop}  (hK : K none μ) : G X (Rm (d + 2)) mX12_readNode 20 [] [] μ 0 0 K := by
  exact G_vret rfl rfl rfl d_X12_readNode_20 hK
theorem b_X12_readNode_25 {X : cX} {d : Nat} {μ : mM} {K : Option Value → mM → Prop} {r0 : Nat} {l1 : Int32} {l2 : Int32} {j0 : Nat} (hw12_r0 : WF12 μ r0) (hi_j0 : (183 : Int32) + l2 = nI j0) (hb : j0 < 366) (hK : K none (wi (wi μ (r0 + 1) j0 l1) (r0 + 1) 243 ((iv (wi μ (r0 + 1) j0 l1) (r0 + 1) 243) + 1))) : G X (Rm (d + 2)) mX12_readNode 25 [(0, .ref r0), (1, .int l1), (2, .int l2)] [] μ 0 0 K := by
  refine G_aload_n d_X12_readNode_25 rfl 0 rfl ?_
  refine G_getR (r := r0 + 1) 12 0 (w12_kd hw12_r0) (w12_f0 hw12_r0) cok12 (by decide) rfl fl_X12_7 d_X12_readNode_26 ?_
  refine G_sipush d_X12_readNode_29 sp_183 ?_
  refine G_iload_n d_X12_readNode_32 rfl 2 rfl ?_
  refine G_iadd d_X12_readNode_33 ?_
  refine G_iload_n d_X12_readNode_34 rfl 1 rfl ?_
  refine G_iast j0 (w12_k0 hw12_r0) hi_j0 hb d_X12_readNode_35 ?_
  refine G_aload_n d_X12_readNode_36 rfl 0 rfl ?_
  refine G_getR (r := r0 + 1) 12 0 (w12_kd hw12_r0) (w12_f0 hw12_r0) cok12 (by decide) rfl fl_X12_7 d_X12_readNode_37 ?_
  refine G_sipush d_X12_readNode_40 sp_243 ?_
  refine G_dup2_11 d_X12_readNode_43 rfl rfl ?_
  refine G_iald 243 (w12_k0 hw12_r0) rfl (by decide) d_X12_readNode_44 ?_
  refine G_iconst d_X12_readNode_45 ic_1 ?_
  refine G_iadd d_X12_readNode_46 ?_
  refine G_iast 243 (w12_k0 hw12_r0) rfl (by decide) d_X12_readNode_47 ?_
  exact G_vret rfl rfl rfl d_X12_readNode_48 hK
theorem d_X12_readTold_0 : decode cX12_readTold 0 = .ok (.aload_n 0, 1) := by decide +kernel
theorem d_X12_readTold_1 : decode cX12_readTold 1 = .ok (.invokevirtual 108, 3) := by decide +kernel
theorem d_X12_readTold_4 : decode cX12_readTold 4 = .ok (.iload_n 1, 1) := by decide +kernel
theorem d_X12_readTold_5 : decode cX12_readTold 5 = .ok (.ifCond .eq 10, 3) := by decide +kernel
theorem d_X12_readTold_8 : decode cX12_readTold 8 = .ok (.aload_n 0, 1) := by decide +kernel
theorem d_X12_readTold_9 : decode cX12_readTold 9 = .ok (.invokevirtual 118, 3) := by decide +kernel
theorem d_X12_readTold_12 : decode cX12_readTold 12 = .ok (.goto 7, 3) := by decide +kernel
theorem d_X12_readTold_15 : decode cX12_readTold 15 = .ok (.aload_n 0, 1) := by decide +kernel
theorem d_X12_readTold_16 : decode cX12_readTold 16 = .ok (.invokevirtual 121, 3) := by decide +kernel
theorem d_X12_readTold_19 : decode cX12_readTold 19 = .ok (.istore_n 2, 1) := by decide +kernel
theorem d_X12_readTold_20 : decode cX12_readTold 20 = .ok (.aload_n 0, 1) := by decide +kernel
theorem d_X12_readTold_21 : decode cX12_readTold 21 = .ok (.invokevirtual 121, 3) := by decide +kernel
theorem d_X12_readTold_24 : decode cX12_readTold 24 = .ok (.istore_n 3, 1) := by decide +kernel
theorem d_X12_readTold_25 : decode cX12_readTold 25 = .ok (.aload_n 0, 1) := by decide +kernel
theorem d_X12_readTold_26 : decode cX12_readTold 26 = .ok (.invokevirtual 124, 3) := by decide +kernel
theorem d_X12_readTold_29 : decode cX12_readTold 29 = .ok (.istore 4, 2) := by decide +kernel
theorem d_X12_readTold_31 : decode cX12_readTold 31 = .ok (.aload_n 0, 1) := by decide +kernel
theorem d_X12_readTold_32 : decode cX12_readTold 32 = .ok (.getfield 7, 3) := by decide +kernel
theorem d_X12_readTold_35 : decode cX12_readTold 35 = .ok (.sipush 183, 3) := by decide +kernel
theorem d_X12_readTold_38 : decode cX12_readTold 38 = .ok (.iload_n 1, 1) := by decide +kernel
theorem d_X12_readTold_39 : decode cX12_readTold 39 = .ok (.ifCond .eq 8, 3) := by decide +kernel
theorem d_X12_readTold_42 : decode cX12_readTold 42 = .ok (.bipush 6, 2) := by decide +kernel
theorem d_X12_readTold_44 : decode cX12_readTold 44 = .ok (.goto 5, 3) := by decide +kernel
theorem d_X12_readTold_47 : decode cX12_readTold 47 = .ok (.bipush 24, 2) := by decide +kernel
theorem d_X12_readTold_49 : decode cX12_readTold 49 = .ok (.iadd, 1) := by decide +kernel
theorem d_X12_readTold_50 : decode cX12_readTold 50 = .ok (.bipush 6, 2) := by decide +kernel
theorem d_X12_readTold_52 : decode cX12_readTold 52 = .ok (.iload_n 2, 1) := by decide +kernel
theorem d_X12_readTold_53 : decode cX12_readTold 53 = .ok (.imul, 1) := by decide +kernel
theorem d_X12_readTold_54 : decode cX12_readTold 54 = .ok (.iadd, 1) := by decide +kernel
theorem d_X12_readTold_55 : decode cX12_readTold 55 = .ok (.iload_n 3, 1) := by decide +kernel
theorem d_X12_readTold_56 : decode cX12_readTold 56 = .ok (.iadd, 1) := by decide +kernel
theorem d_X12_readTold_57 : decode cX12_readTold 57 = .ok (.iload 4, 2) := by decide +kernel
theorem d_X12_readTold_59 : decode cX12_readTold 59 = .ok (.iastore, 1) := by decide +kernel
theorem d_X12_readTold_60 : decode cX12_readTold 60 = .ok (.return_, 1) := by decide +kernel
theorem b_X12_readTold_0 {X : cX} {d : Nat} {μ : mM} {K : Option Value → mM → Prop} {r0 : Nat} {l1 : Int32} (hw12_r0 : WF12 μ r0) (hc_readsOn : Ct X (Rm (d + 2)) mX12_readsOn [.ref r0] μ (fun r μ2 => G X (Rm (d + 3)) mX12_readTold 4 [(0, .ref r0), (1, .int l1)] (r.toList ++ []) μ2 0 0 K)) : G X (Rm (d + 3)) mX12_readTold 0 [(0, .ref r0), (1, .int l1)] [] μ 0 0 K := by
  refine G_aload_n d_X12_readTold_0 rfl 0 rfl ?_
  refine G_callV (M' := mX12_readsOn) (R' := (Rm (d + 2))) (S := []) [] 12 (w12_kd hw12_r0) cok12 rfl ok_X12_readsOn ml_X12_108 pn_X12_readsOn (ru_Rm (by decide)) (Nat.le_of_ble_eq_true rfl) d_X12_readTold_1 ?_
  exact hc_readsOn
theorem b_X12_readTold_4 {X : cX} {d : Nat} {μ : mM} {K : Option Value → mM → Prop} {r0 : Nat} {l1 : Int32} (hw12_r0 : WF12 μ r0) (hc_nodeRead : l1 = 0 → Ct X (Rm (d + 2)) mX12_nodeRead [.ref r0] μ (fun r μ2 => G X (Rm (d + 3)) mX12_readTold 19 [(0, .ref r0), (1, .int l1)] (r.toList ++ []) μ2 0 0 K)) (hc_variableRead : ¬ l1 = 0 → Ct X (Rm (d + 2)) mX12_variableRead [.ref r0] μ (fun r μ2 => G X (Rm (d + 3)) mX12_readTold 12 [(0, .ref r0), (1, .int l1)] (r.toList ++ []) μ2 0 0 K)) : G X (Rm (d + 3)) mX12_readTold 4 [(0, .ref r0), (1, .int l1)] [] μ 0 0 K := by
  refine G_iload_n d_X12_readTold_4 rfl 1 rfl ?_
  refine G_if_eq (tgt := 15) d_X12_readTold_5 rfl (fun c0 => ?_) (fun c0 => ?_)
  ·
    refine G_aload_n d_X12_readTold_15 rfl 0 rfl ?_
    refine G_callV (M' := mX12_nodeRead) (R' := (Rm (d + 2))) (S := []) [] 12 (w12_kd hw12_r0) cok12 rfl ok_X12_nodeRead ml_X12_121 pn_X12_nodeRead (ru_Rm (by decide)) (Nat.le_of_ble_eq_true rfl) d_X12_readTold_16 ?_
    exact (hc_nodeRead c0)
  ·
    refine G_aload_n d_X12_readTold_8 rfl 0 rfl ?_
    refine G_callV (M' := mX12_variableRead) (R' := (Rm (d + 2))) (S := []) [] 12 (w12_kd hw12_r0) cok12 rfl ok_X12_variableRead ml_X12_118 pn_X12_variableRead (ru_Rm (by decide)) (Nat.le_of_ble_eq_true rfl) d_X12_readTold_9 ?_
    exact (hc_variableRead c0)
theorem b_X12_readTold_12 {X : cX} {d : Nat} {μ : mM} {K : Option Value → mM → Prop} {r0 : Nat} {l1 : Int32} {v0 : Int32} (h : G X (Rm (d + 3)) mX12_readTold 19 [(0, .ref r0), (1, .int l1)] [.int v0] μ 0 0 K) : G X (Rm (d + 3)) mX12_readTold 12 [(0, .ref r0), (1, .int l1)] [.int v0] μ 0 0 K := by
  refine G_goto (tgt := 19) d_X12_readTold_12 rfl ?_
  exact h
theorem b_X12_readTold_19 {X : cX} {d : Nat} {μ : mM} {K : Option Value → mM → Prop} {r0 : Nat} {l1 : Int32} {v0 : Int32} (hw12_r0 : WF12 μ r0) (hc_nodeRead : Ct X (Rm (d + 2)) mX12_nodeRead [.ref r0] μ (fun r μ2 => G X (Rm (d + 3)) mX12_readTold 24 [(0, .ref r0), (1, .int l1), (2, .int v0)] (r.toList ++ []) μ2 0 0 K)) : G X (Rm (d + 3)) mX12_readTold 19 [(0, .ref r0), (1, .int l1)] [.int v0] μ 0 0 K := by
  refine G_istore_n (L' := [(2, .int v0), (0, .ref r0), (1, .int l1)]) d_X12_readTold_19 rfl (by decide) rfl ?_
  refine G_aload_n d_X12_readTold_20 rfl 1 rfl ?_
  refine G_sub (L' := [(0, .ref r0), (1, .int l1), (2, .int v0)]) [1, 2, 0] rfl ?_
  refine G_callV (M' := mX12_nodeRead) (R' := (Rm (d + 2))) (S := []) [] 12 (w12_kd hw12_r0) cok12 rfl ok_X12_nodeRead ml_X12_121 pn_X12_nodeRead (ru_Rm (by decide)) (Nat.le_of_ble_eq_true rfl) d_X12_readTold_21 ?_
  exact hc_nodeRead
theorem b_X12_readTold_24 {X : cX} {d : Nat} {μ : mM} {K : Option Value → mM → Prop} {r0 : Nat} {l1 : Int32} {l2 : Int32} {v0 : Int32} (hw12_r0 : WF12 μ r0) (hc_truthRead : Ct X (Rm (d + 2)) mX12_truthRead [.ref r0] μ (fun r μ2 => G X (Rm (d + 3)) mX12_readTold 29 [(0, .ref r0), (1, .int l1), (2, .int l2), (3, .int v0)] (r.toList ++ []) μ2 0 0 K)) : G X (Rm (d + 3)) mX12_readTold 24 [(0, .ref r0), (1, .int l1), (2, .int l2)] [.int v0] μ 0 0 K := by
  refine G_istore_n (L' := [(3, .int v0), (0, .ref r0), (1, .int l1), (2, .int l2)]) d_X12_readTold_24 rfl (by decide) rfl ?_
  refine G_aload_n d_X12_readTold_25 rfl 1 rfl ?_
  refine G_sub (L' := [(0, .ref r0), (1, .int l1), (2, .int l2), (3, .int v0)]) [1, 2, 3, 0] rfl ?_
  refine G_callV (M' := mX12_truthRead) (R' := (Rm (d + 2))) (S := []) [] 12 (w12_kd hw12_r0) cok12 rfl ok_X12_truthRead ml_X12_124 pn_X12_truthRead (ru_Rm (by decide)) (Nat.le_of_ble_eq_true rfl) d_X12_readTold_26 ?_
  exact hc_truthRead
theorem b_X12_readTold_29 {X : cX} {d : Nat} {μ : mM} {K : Option Value → mM → Prop} {r0 : Nat} {l1 : Int32} {l2 : Int32} {l3 : Int32} {v0 : Int32} (hw12_r0 : WF12 μ r0) (h : l1 = 0 → G X (Rm (d + 3)) mX12_readTold 49 [(2, .int l2), (3, .int l3), (4, .int v0)] [.int 24, .int 183, .ref (r0 + 1)] μ 0 0 K) (h_2 : ¬ l1 = 0 → G X (Rm (d + 3)) mX12_readTold 49 [(2, .int l2), (3, .int l3), (4, .int v0)] [.int 6, .int 183, .ref (r0 + 1)] μ 0 0 K) : G X (Rm (d + 3)) mX12_readTold 29 [(0, .ref r0), (1, .int l1), (2, .int l2), (3, .int l3)] [.int v0] μ 0 0 K := by
  refine G_istore (L' := [(4, .int v0), (0, .ref r0), (1, .int l1), (2, .int l2), (3, .int l3)]) d_X12_readTold_29 (by decide) rfl ?_
  refine G_aload_n d_X12_readTold_31 rfl 1 rfl ?_
  refine G_getR (r := r0 + 1) 12 0 (w12_kd hw12_r0) (w12_f0 hw12_r0) cok12 (by decide) rfl fl_X12_7 d_X12_readTold_32 ?_
  refine G_sipush d_X12_readTold_35 sp_183 ?_
  refine G_iload_n d_X12_readTold_38 rfl 2 rfl ?_
  refine G_if_eq (tgt := 47) d_X12_readTold_39 rfl (fun c0 => ?_) (fun c0 => ?_)
  ·
    refine G_bipush d_X12_readTold_47 bp_24 ?_
    refine G_sub (L' := [(2, .int l2), (3, .int l3), (4, .int v0)]) [3, 4, 0] rfl ?_
    exact (h c0)
  ·
    refine G_bipush d_X12_readTold_42 bp_6 ?_
    refine G_goto (tgt := 49) d_X12_readTold_44 rfl ?_
    refine G_sub (L' := [(2, .int l2), (3, .int l3), (4, .int v0)]) [3, 4, 0] rfl ?_
    exact (h_2 c0)
theorem b_X12_readTold_49 {X : cX} {d : Nat} {μ : mM} {K : Option Value → mM → Prop} {l2 : Int32} {l3 : Int32} {l4 : Int32} {q0 : Nat} {v1 : Int32} {v2 : Int32} {n0 : Nat} {j0 : Nat} (hk_q0 : kd μ q0 = (1, n0)) (hi_j0 : ((v1 + v2) + ((6 : Int32) * l2)) + l3 = nI j0) (hb : j0 < n0) (hK : K none (wi μ q0 j0 l4)) : G X (Rm (d + 3)) mX12_readTold 49 [(2, .int l2), (3, .int l3), (4, .int l4)] [.int v2, .int v1, .ref q0] μ 0 0 K := by
  refine G_iadd d_X12_readTold_49 ?_
  refine G_bipush d_X12_readTold_50 bp_6 ?_
  refine G_iload_n d_X12_readTold_52 rfl 0 rfl ?_
  refine G_imul d_X12_readTold_53 ?_
  refine G_iadd d_X12_readTold_54 ?_
  refine G_iload_n d_X12_readTold_55 rfl 1 rfl ?_
  refine G_iadd d_X12_readTold_56 ?_
  refine G_iload d_X12_readTold_57 2 rfl ?_
  refine G_iast j0 hk_q0 hi_j0 hb d_X12_readTold_59 ?_
  exact G_vret rfl rfl rfl d_X12_readTold_60 hK
theorem d_X12_readLetters_0 : decode cX12_readLetters 0 = .ok (.aload_n 0, 1) := by decide +kernel
theorem d_X12_readLetters_1 : decode cX12_readLetters 1 = .ok (.invokevirtual 114, 3) := by decide +kernel
theorem d_X12_readLetters_4 : decode cX12_readLetters 4 = .ok (.istore_n 2, 1) := by decide +kernel
theorem d_X12_readLetters_5 : decode cX12_readLetters 5 = .ok (.aload_n 0, 1) := by decide +kernel
theorem d_X12_readLetters_6 : decode cX12_readLetters 6 = .ok (.getfield 69, 3) := by decide +kernel
theorem d_X12_readLetters_9 : decode cX12_readLetters 9 = .ok (.ifCond .ne 127, 3) := by decide +kernel
theorem d_X12_readLetters_12 : decode cX12_readLetters 12 = .ok (.iload_n 2, 1) := by decide +kernel
theorem d_X12_readLetters_13 : decode cX12_readLetters 13 = .ok (.bipush 11, 2) := by decide +kernel
theorem d_X12_readLetters_15 : decode cX12_readLetters 15 = .ok (.if_icmp .eq 9, 3) := by decide +kernel
theorem d_X12_readLetters_18 : decode cX12_readLetters 18 = .ok (.iload_n 2, 1) := by decide +kernel
theorem d_X12_readLetters_19 : decode cX12_readLetters 19 = .ok (.bipush 12, 2) := by decide +kernel
theorem d_X12_readLetters_21 : decode cX12_readLetters 21 = .ok (.if_icmp .ne 115, 3) := by decide +kernel
theorem d_X12_readLetters_24 : decode cX12_readLetters 24 = .ok (.aload_n 0, 1) := by decide +kernel
theorem d_X12_readLetters_25 : decode cX12_readLetters 25 = .ok (.invokevirtual 108, 3) := by decide +kernel
theorem d_X12_readLetters_28 : decode cX12_readLetters 28 = .ok (.aload_n 0, 1) := by decide +kernel
theorem d_X12_readLetters_29 : decode cX12_readLetters 29 = .ok (.bipush 97, 2) := by decide +kernel
theorem d_X12_readLetters_31 : decode cX12_readLetters 31 = .ok (.invokevirtual 105, 3) := by decide +kernel
theorem d_X12_readLetters_34 : decode cX12_readLetters 34 = .ok (.istore_n 3, 1) := by decide +kernel
theorem d_X12_readLetters_35 : decode cX12_readLetters 35 = .ok (.aload_n 0, 1) := by decide +kernel
theorem d_X12_readLetters_36 : decode cX12_readLetters 36 = .ok (.getfield 69, 3) := by decide +kernel
theorem d_X12_readLetters_39 : decode cX12_readLetters 39 = .ok (.ifCond .ne 21, 3) := by decide +kernel
theorem d_X12_readLetters_42 : decode cX12_readLetters 42 = .ok (.aload_n 0, 1) := by decide +kernel
theorem d_X12_readLetters_43 : decode cX12_readLetters 43 = .ok (.getfield 16, 3) := by decide +kernel
theorem d_X12_readLetters_46 : decode cX12_readLetters 46 = .ok (.iload_n 1, 1) := by decide +kernel
theorem d_X12_readLetters_47 : decode cX12_readLetters 47 = .ok (.iconst 4, 1) := by decide +kernel
theorem d_X12_readLetters_48 : decode cX12_readLetters 48 = .ok (.iadd, 1) := by decide +kernel
theorem d_X12_readLetters_49 : decode cX12_readLetters 49 = .ok (.iload_n 3, 1) := by decide +kernel
theorem d_X12_readLetters_50 : decode cX12_readLetters 50 = .ok (.iadd, 1) := by decide +kernel
theorem d_X12_readLetters_51 : decode cX12_readLetters 51 = .ok (.iaload, 1) := by decide +kernel
theorem d_X12_readLetters_52 : decode cX12_readLetters 52 = .ok (.ifCond .le 8, 3) := by decide +kernel
theorem d_X12_readLetters_55 : decode cX12_readLetters 55 = .ok (.aload_n 0, 1) := by decide +kernel
theorem d_X12_readLetters_56 : decode cX12_readLetters 56 = .ok (.iconst 4, 1) := by decide +kernel
theorem d_X12_readLetters_57 : decode cX12_readLetters 57 = .ok (.invokevirtual 99, 3) := by decide +kernel
theorem d_X12_readLetters_60 : decode cX12_readLetters 60 = .ok (.aload_n 0, 1) := by decide +kernel
theorem d_X12_readLetters_61 : decode cX12_readLetters 61 = .ok (.getfield 69, 3) := by decide +kernel
theorem d_X12_readLetters_64 : decode cX12_readLetters 64 = .ok (.ifCond .ne 60, 3) := by decide +kernel
theorem d_X12_readLetters_67 : decode cX12_readLetters 67 = .ok (.aload_n 0, 1) := by decide +kernel
theorem d_X12_readLetters_68 : decode cX12_readLetters 68 = .ok (.getfield 16, 3) := by decide +kernel
theorem d_X12_readLetters_71 : decode cX12_readLetters 71 = .ok (.iload_n 1, 1) := by decide +kernel
theorem d_X12_readLetters_72 : decode cX12_readLetters 72 = .ok (.iaload, 1) := by decide +kernel
theorem d_X12_readLetters_73 : decode cX12_readLetters 73 = .ok (.istore 4, 2) := by decide +kernel
theorem d_X12_readLetters_75 : decode cX12_readLetters 75 = .ok (.aload_n 0, 1) := by decide +kernel
theorem d_X12_readLetters_76 : decode cX12_readLetters 76 = .ok (.getfield 16, 3) := by decide +kernel
theorem d_X12_readLetters_79 : decode cX12_readLetters 79 = .ok (.iload_n 1, 1) := by decide +kernel
theorem d_X12_readLetters_80 : decode cX12_readLetters 80 = .ok (.iconst 4, 1) := by decide +kernel
theorem d_X12_readLetters_81 : decode cX12_readLetters 81 = .ok (.iadd, 1) := by decide +kernel
theorem d_X12_readLetters_82 : decode cX12_readLetters 82 = .ok (.iload_n 3, 1) := by decide +kernel
theorem d_X12_readLetters_83 : decode cX12_readLetters 83 = .ok (.iadd, 1) := by decide +kernel
theorem d_X12_readLetters_84 : decode cX12_readLetters 84 = .ok (.iload 4, 2) := by decide +kernel
theorem d_X12_readLetters_86 : decode cX12_readLetters 86 = .ok (.iconst 1, 1) := by decide +kernel
theorem d_X12_readLetters_87 : decode cX12_readLetters 87 = .ok (.iadd, 1) := by decide +kernel
theorem d_X12_readLetters_88 : decode cX12_readLetters 88 = .ok (.iastore, 1) := by decide +kernel
theorem d_X12_readLetters_89 : decode cX12_readLetters 89 = .ok (.aload_n 0, 1) := by decide +kernel
theorem d_X12_readLetters_90 : decode cX12_readLetters 90 = .ok (.getfield 16, 3) := by decide +kernel
theorem d_X12_readLetters_93 : decode cX12_readLetters 93 = .ok (.iload_n 1, 1) := by decide +kernel
theorem d_X12_readLetters_94 : decode cX12_readLetters 94 = .ok (.iconst 1, 1) := by decide +kernel
theorem d_X12_readLetters_95 : decode cX12_readLetters 95 = .ok (.iadd, 1) := by decide +kernel
theorem d_X12_readLetters_96 : decode cX12_readLetters 96 = .ok (.dup2, 1) := by decide +kernel
theorem d_X12_readLetters_97 : decode cX12_readLetters 97 = .ok (.iaload, 1) := by decide +kernel
theorem d_X12_readLetters_98 : decode cX12_readLetters 98 = .ok (.iload_n 2, 1) := by decide +kernel
theorem d_X12_readLetters_99 : decode cX12_readLetters 99 = .ok (.bipush 11, 2) := by decide +kernel
theorem d_X12_readLetters_101 : decode cX12_readLetters 101 = .ok (.if_icmp .ne 10, 3) := by decide +kernel
theorem d_X12_readLetters_104 : decode cX12_readLetters 104 = .ok (.iconst 1, 1) := by decide +kernel
theorem d_X12_readLetters_105 : decode cX12_readLetters 105 = .ok (.iload 4, 2) := by decide +kernel
theorem d_X12_readLetters_107 : decode cX12_readLetters 107 = .ok (.ishl, 1) := by decide +kernel
theorem d_X12_readLetters_108 : decode cX12_readLetters 108 = .ok (.goto 4, 3) := by decide +kernel
theorem d_X12_readLetters_111 : decode cX12_readLetters 111 = .ok (.iconst 0, 1) := by decide +kernel
theorem d_X12_readLetters_112 : decode cX12_readLetters 112 = .ok (.ior, 1) := by decide +kernel
theorem d_X12_readLetters_113 : decode cX12_readLetters 113 = .ok (.iastore, 1) := by decide +kernel
theorem d_X12_readLetters_114 : decode cX12_readLetters 114 = .ok (.aload_n 0, 1) := by decide +kernel
theorem d_X12_readLetters_115 : decode cX12_readLetters 115 = .ok (.getfield 16, 3) := by decide +kernel
theorem d_X12_readLetters_118 : decode cX12_readLetters 118 = .ok (.iload_n 1, 1) := by decide +kernel
theorem d_X12_readLetters_119 : decode cX12_readLetters 119 = .ok (.dup2, 1) := by decide +kernel
theorem d_X12_readLetters_120 : decode cX12_readLetters 120 = .ok (.iaload, 1) := by decide +kernel
theorem d_X12_readLetters_121 : decode cX12_readLetters 121 = .ok (.iconst 1, 1) := by decide +kernel
theorem d_X12_readLetters_122 : decode cX12_readLetters 122 = .ok (.iadd, 1) := by decide +kernel
theorem d_X12_readLetters_123 : decode cX12_readLetters 123 = .ok (.iastore, 1) := by decide +kernel
theorem d_X12_readLetters_124 : decode cX12_readLetters 124 = .ok (.aload_n 0, 1) := by decide +kernel
theorem d_X12_readLetters_125 : decode cX12_readLetters 125 = .ok (.invokevirtual 108, 3) := by decide +kernel
theorem d_X12_readLetters_128 : decode cX12_readLetters 128 = .ok (.aload_n 0, 1) := by decide +kernel
theorem d_X12_readLetters_129 : decode cX12_readLetters 129 = .ok (.invokevirtual 114, 3) := by decide +kernel
theorem d_X12_readLetters_132 : decode cX12_readLetters 132 = .ok (.istore_n 2, 1) := by decide +kernel
theorem d_X12_readLetters_133 : decode cX12_readLetters 133 = .ok (.goto (-128), 3) := by decide +kernel
theorem d_X12_readLetters_136 : decode cX12_readLetters 136 = .ok (.return_, 1) := by decide +kernel
theorem b_X12_readLetters_0 {X : cX} {d : Nat} {μ : mM} {K : Option Value → mM → Prop} {r0 : Nat} {l1 : Int32} (hw12_r0 : WF12 μ r0) (hc_nameHere : Ct X (Rm (d + 1)) mX12_nameHere [.ref r0] μ (fun r μ2 => G X (Rm (d + 2)) mX12_readLetters 4 [(0, .ref r0), (1, .int l1)] (r.toList ++ []) μ2 0 0 K)) : G X (Rm (d + 2)) mX12_readLetters 0 [(0, .ref r0), (1, .int l1)] [] μ 0 0 K := by
  refine G_aload_n d_X12_readLetters_0 rfl 0 rfl ?_
  refine G_callV (M' := mX12_nameHere) (R' := (Rm (d + 1))) (S := []) [] 12 (w12_kd hw12_r0) cok12 rfl ok_X12_nameHere ml_X12_114 pn_X12_nameHere (ru_Rm (by decide)) (Nat.le_of_ble_eq_true rfl) d_X12_readLetters_1 ?_
  exact hc_nameHere
theorem b_X12_readLetters_4 {X : cX} {d : Nat} {μ : mM} {K : Option Value → mM → Prop} {r0 : Nat} {l1 : Int32} {v0 : Int32} (h : G X (Rm (d + 2)) mX12_readLetters 5 [(0, .ref r0), (1, .int l1), (2, .int v0)] [] μ 0 0 K) : G X (Rm (d + 2)) mX12_readLetters 4 [(0, .ref r0), (1, .int l1)] [.int v0] μ 0 0 K := by
  refine G_istore_n (L' := [(2, .int v0), (0, .ref r0), (1, .int l1)]) d_X12_readLetters_4 rfl (by decide) rfl ?_
  refine G_sub (L' := [(0, .ref r0), (1, .int l1), (2, .int v0)]) [1, 2, 0] rfl ?_
  exact h
theorem b_X12_readLetters_5 {X : cX} {d : Nat} {μ : mM} {K : Option Value → mM → Prop} {r0 : Nat} {l1 : Int32} {l2 : Int32} (hw12_r0 : WF12 μ r0) (hK : ¬ (iv μ r0 8) = 0 → K none μ) (h : (iv μ r0 8) = 0 → l2 = (11 : Int32) → G X (Rm (d + 2)) mX12_readLetters 24 [(0, .ref r0), (1, .int l1), (2, .int l2)] [] μ 0 0 K) (hK_2 : (iv μ r0 8) = 0 → ¬ l2 = (11 : Int32) → ¬ l2 = (12 : Int32) → K none μ) (h_2 : (iv μ r0 8) = 0 → ¬ l2 = (11 : Int32) → l2 = (12 : Int32) → G X (Rm (d + 2)) mX12_readLetters 24 [(0, .ref r0), (1, .int l1), (2, .int l2)] [] μ 0 0 K) : G X (Rm (d + 2)) mX12_readLetters 5 [(0, .ref r0), (1, .int l1), (2, .int l2)] [] μ 0 0 K := by
  refine G_aload_n d_X12_readLetters_5 rfl 0 rfl ?_
  refine G_getI 12 8 (w12_kd hw12_r0) cok12 (by decide) rfl fl_X12_69 d_X12_readLetters_6 ?_
  refine G_if_ne (tgt := 136) d_X12_readLetters_9 rfl (fun c0 => ?_) (fun c0 => ?_)
  ·
    exact G_vret rfl rfl rfl d_X12_readLetters_136 (hK c0)
  ·
    refine G_iload_n d_X12_readLetters_12 rfl 2 rfl ?_
    refine G_bipush d_X12_readLetters_13 bp_11 ?_
    refine G_icmp_eq (tgt := 24) d_X12_readLetters_15 rfl (fun c1 => ?_) (fun c1 => ?_)
    ·
      exact (h c0 c1)
    ·
      refine G_iload_n d_X12_readLetters_18 rfl 2 rfl ?_
      refine G_bipush d_X12_readLetters_19 bp_12 ?_
      refine G_icmp_ne (tgt := 136) d_X12_readLetters_21 rfl (fun c2 => ?_) (fun c2 => ?_)
      ·
        exact G_vret rfl rfl rfl d_X12_readLetters_136 (hK_2 c0 c1 c2)
      ·
        exact (h_2 c0 c1 c2)
theorem b_X12_readLetters_24 {X : cX} {d : Nat} {μ : mM} {K : Option Value → mM → Prop} {r0 : Nat} {l1 : Int32} {l2 : Int32} (hw12_r0 : WF12 μ r0) (hc_readsOn : Ct X (Rm (d + 1)) mX12_readsOn [.ref r0] μ (fun r μ2 => G X (Rm (d + 2)) mX12_readLetters 28 [(0, .ref r0), (1, .int l1), (2, .int l2)] (r.toList ++ []) μ2 0 0 K)) : G X (Rm (d + 2)) mX12_readLetters 24 [(0, .ref r0), (1, .int l1), (2, .int l2)] [] μ 0 0 K := by
  refine G_aload_n d_X12_readLetters_24 rfl 0 rfl ?_
  refine G_callV (M' := mX12_readsOn) (R' := (Rm (d + 1))) (S := []) [] 12 (w12_kd hw12_r0) cok12 rfl ok_X12_readsOn ml_X12_108 pn_X12_readsOn (ru_Rm (by decide)) (Nat.le_of_ble_eq_true rfl) d_X12_readLetters_25 ?_
  exact hc_readsOn
theorem b_X12_readLetters_28 {X : cX} {d : Nat} {μ : mM} {K : Option Value → mM → Prop} {r0 : Nat} {l1 : Int32} {l2 : Int32} (hw12_r0 : WF12 μ r0) (hc_letterRead : Ct X (Rm (d + 1)) mX12_letterRead [.ref r0, .int 97] μ (fun r μ2 => G X (Rm (d + 2)) mX12_readLetters 34 [(0, .ref r0), (1, .int l1), (2, .int l2)] (r.toList ++ []) μ2 0 0 K)) : G X (Rm (d + 2)) mX12_readLetters 28 [(0, .ref r0), (1, .int l1), (2, .int l2)] [] μ 0 0 K := by
  refine G_aload_n d_X12_readLetters_28 rfl 0 rfl ?_
  refine G_bipush d_X12_readLetters_29 bp_97 ?_
  refine G_callV (M' := mX12_letterRead) (R' := (Rm (d + 1))) (S := []) [.int 97] 12 (w12_kd hw12_r0) cok12 rfl ok_X12_letterRead ml_X12_105 pn_X12_letterRead (ru_Rm (by decide)) (Nat.le_of_ble_eq_true rfl) d_X12_readLetters_31 ?_
  exact hc_letterRead
theorem b_X12_readLetters_34 {X : cX} {d : Nat} {μ : mM} {K : Option Value → mM → Prop} {r0 : Nat} {i1 : Nat} {l2 : Int32} {v0 : Int32} {j0 : Nat} (hw12_r0 : WF12 μ r0) (h : ¬ (iv μ r0 8) = 0 → G X (Rm (d + 2)) mX12_readLetters 60 [(0, .ref r0), (1, .int (nI i1)), (2, .int l2), (3, .int v0)] [] μ 0 0 K) (hi_j0 : (iv μ r0 8) = 0 → ((nI i1) + 4) + v0 = nI j0) (hb : (iv μ r0 8) = 0 → j0 < 192) (h_2 : (iv μ r0 8) = 0 → (iv μ (r0 + 3) j0) ≤ 0 → G X (Rm (d + 2)) mX12_readLetters 60 [(0, .ref r0), (1, .int (nI i1)), (2, .int l2), (3, .int v0)] [] μ 0 0 K) (hc_fails : (iv μ r0 8) = 0 → ¬ (iv μ (r0 + 3) j0) ≤ 0 → Ct X (Rm (d + 1)) mX12_fails [.ref r0, .int 4] μ (fun r μ2 => G X (Rm (d + 2)) mX12_readLetters 60 [(0, .ref r0), (1, .int (nI i1)), (2, .int l2), (3, .int v0)] (r.toList ++ []) μ2 0 0 K)) : G X (Rm (d + 2)) mX12_readLetters 34 [(0, .ref r0), (1, .int (nI i1)), (2, .int l2)] [.int v0] μ 0 0 K := by
  refine G_istore_n (L' := [(3, .int v0), (0, .ref r0), (1, .int (nI i1)), (2, .int l2)]) d_X12_readLetters_34 rfl (by decide) rfl ?_
  refine G_aload_n d_X12_readLetters_35 rfl 1 rfl ?_
  refine G_getI 12 8 (w12_kd hw12_r0) cok12 (by decide) rfl fl_X12_69 d_X12_readLetters_36 ?_
  refine G_if_ne (tgt := 60) d_X12_readLetters_39 rfl (fun c0 => ?_) (fun c0 => ?_)
  ·
    refine G_sub (L' := [(0, .ref r0), (1, .int (nI i1)), (2, .int l2), (3, .int v0)]) [1, 2, 3, 0] rfl ?_
    exact (h c0)
  ·
    refine G_aload_n d_X12_readLetters_42 rfl 1 rfl ?_
    refine G_getR (r := r0 + 3) 12 3 (w12_kd hw12_r0) (w12_f3 hw12_r0) cok12 (by decide) rfl fl_X12_16 d_X12_readLetters_43 ?_
    refine G_iload_n d_X12_readLetters_46 rfl 2 rfl ?_
    refine G_iconst d_X12_readLetters_47 ic_4 ?_
    refine G_iadd d_X12_readLetters_48 ?_
    refine G_iload_n d_X12_readLetters_49 rfl 0 rfl ?_
    refine G_iadd d_X12_readLetters_50 ?_
    refine G_iald j0 (w12_k3 hw12_r0) (hi_j0 c0) (hb c0) d_X12_readLetters_51 ?_
    refine G_if_le (tgt := 60) d_X12_readLetters_52 rfl (fun c1 => ?_) (fun c1 => ?_)
    ·
      refine G_sub (L' := [(0, .ref r0), (1, .int (nI i1)), (2, .int l2), (3, .int v0)]) [1, 2, 3, 0] rfl ?_
      exact (h_2 c0 c1)
    ·
      refine G_aload_n d_X12_readLetters_55 rfl 1 rfl ?_
      refine G_iconst d_X12_readLetters_56 ic_4 ?_
      refine G_sub (L' := [(0, .ref r0), (1, .int (nI i1)), (2, .int l2), (3, .int v0)]) [1, 2, 3, 0] rfl ?_
      refine G_callV (M' := mX12_fails) (R' := (Rm (d + 1))) (S := []) [.int 4] 12 (w12_kd hw12_r0) cok12 rfl ok_X12_fails ml_X12_99 pn_X12_fails (ru_Rm (by decide)) (Nat.le_of_ble_eq_true rfl) d_X12_readLetters_57 ?_
      exact (hc_fails c0 c1)
theorem b_X12_readLetters_60 {X : cX} {d : Nat} {μ : mM} {K : Option Value → mM → Prop} {r0 : Nat} {i1 : Nat} {l2 : Int32} {l3 : Int32} {j0 : Nat} (hw12_r0 : WF12 μ r0) (h : ¬ (iv μ r0 8) = 0 → G X (Rm (d + 2)) mX12_readLetters 124 [(0, .ref r0), (1, .int (nI i1))] [] μ 0 0 K) (hb : (iv μ r0 8) = 0 → i1 < 192) (hi_j0 : (iv μ r0 8) = 0 → ((nI i1) + 4) + l3 = nI j0) (hb_2 : (iv μ r0 8) = 0 → j0 < 192) (hb_3 : (iv μ r0 8) = 0 → (i1 + 1) < 192) (h_2 : (iv μ r0 8) = 0 → ¬ l2 = (11 : Int32) → G X (Rm (d + 2)) mX12_readLetters 112 [(0, .ref r0), (1, .int (nI i1))] [.int 0, .int (iv (wi μ (r0 + 3) j0 ((iv μ (r0 + 3) i1) + 1)) (r0 + 3) (i1 + 1)), .int ((nI i1) + 1), .ref (r0 + 3)] (wi μ (r0 + 3) j0 ((iv μ (r0 + 3) i1) + 1)) 0 0 K) (h_3 : (iv μ r0 8) = 0 → l2 = (11 : Int32) → G X (Rm (d + 2)) mX12_readLetters 112 [(0, .ref r0), (1, .int (nI i1))] [.int ((1 : Int32) <<< ((iv μ (r0 + 3) i1) &&& 31)), .int (iv (wi μ (r0 + 3) j0 ((iv μ (r0 + 3) i1) + 1)) (r0 + 3) (i1 + 1)), .int ((nI i1) + 1), .ref (r0 + 3)] (wi μ (r0 + 3) j0 ((iv μ (r0 + 3) i1) + 1)) 0 0 K) : G X (Rm (d + 2)) mX12_readLetters 60 [(0, .ref r0), (1, .int (nI i1)), (2, .int l2), (3, .int l3)] [] μ 0 0 K := by
  refine G_aload_n d_X12_readLetters_60 rfl 0 rfl ?_
  refine G_getI 12 8 (w12_kd hw12_r0) cok12 (by decide) rfl fl_X12_69 d_X12_readLetters_61 ?_
  refine G_if_ne (tgt := 124) d_X12_readLetters_64 rfl (fun c0 => ?_) (fun c0 => ?_)
  ·
    refine G_sub (L' := [(0, .ref r0), (1, .int (nI i1))]) [0, 1] rfl ?_
    exact (h c0)
  ·
    refine G_aload_n d_X12_readLetters_67 rfl 0 rfl ?_
    refine G_getR (r := r0 + 3) 12 3 (w12_kd hw12_r0) (w12_f3 hw12_r0) cok12 (by decide) rfl fl_X12_16 d_X12_readLetters_68 ?_
    refine G_iload_n d_X12_readLetters_71 rfl 1 rfl ?_
    refine G_iald i1 (w12_k3 hw12_r0) rfl (hb c0) d_X12_readLetters_72 ?_
    refine G_istore (L' := [(4, .int (iv μ (r0 + 3) i1)), (0, .ref r0), (1, .int (nI i1)), (2, .int l2), (3, .int l3)]) d_X12_readLetters_73 (by decide) rfl ?_
    refine G_aload_n d_X12_readLetters_75 rfl 1 rfl ?_
    refine G_getR (r := r0 + 3) 12 3 (w12_kd hw12_r0) (w12_f3 hw12_r0) cok12 (by decide) rfl fl_X12_16 d_X12_readLetters_76 ?_
    refine G_iload_n d_X12_readLetters_79 rfl 2 rfl ?_
    refine G_iconst d_X12_readLetters_80 ic_4 ?_
    refine G_iadd d_X12_readLetters_81 ?_
    refine G_iload_n d_X12_readLetters_82 rfl 4 rfl ?_
    refine G_iadd d_X12_readLetters_83 ?_
    refine G_iload d_X12_readLetters_84 0 rfl ?_
    refine G_iconst d_X12_readLetters_86 ic_1 ?_
    refine G_iadd d_X12_readLetters_87 ?_
    refine G_iast j0 (w12_k3 hw12_r0) (hi_j0 c0) (hb_2 c0) d_X12_readLetters_88 ?_
    refine G_aload_n d_X12_readLetters_89 rfl 1 rfl ?_
    refine G_getR (r := r0 + 3) 12 3 (w12_kd hw12_r0) (w12_f3 hw12_r0) cok12 (by decide) rfl fl_X12_16 d_X12_readLetters_90 ?_
    refine G_iload_n d_X12_readLetters_93 rfl 2 rfl ?_
    refine G_iconst d_X12_readLetters_94 ic_1 ?_
    refine G_iadd d_X12_readLetters_95 ?_
    refine G_dup2_11 d_X12_readLetters_96 rfl rfl ?_
    refine G_iald (i1 + 1) (w12_k3 hw12_r0) (nadd rfl rfl) (hb_3 c0) d_X12_readLetters_97 ?_
    refine G_iload_n d_X12_readLetters_98 rfl 3 rfl ?_
    refine G_bipush d_X12_readLetters_99 bp_11 ?_
    refine G_icmp_ne (tgt := 111) d_X12_readLetters_101 rfl (fun c1 => ?_) (fun c1 => ?_)
    ·
      refine G_iconst d_X12_readLetters_111 ic_0 ?_
      refine G_sub (L' := [(0, .ref r0), (1, .int (nI i1))]) [1, 2] rfl ?_
      exact (h_2 c0 c1)
    ·
      refine G_iconst d_X12_readLetters_104 ic_1 ?_
      refine G_iload d_X12_readLetters_105 0 rfl ?_
      refine G_ishl d_X12_readLetters_107 ?_
      refine G_goto (tgt := 112) d_X12_readLetters_108 rfl ?_
      refine G_sub (L' := [(0, .ref r0), (1, .int (nI i1))]) [1, 2] rfl ?_
      exact (h_3 c0 c1)
theorem b_X12_readLetters_112 {X : cX} {d : Nat} {μ : mM} {K : Option Value → mM → Prop} {r0 : Nat} {i1 : Nat} {q0 : Nat} {v1 : Int32} {v2 : Int32} {v3 : Int32} {n0 : Nat} {j0 : Nat} (hk_q0 : kd μ q0 = (1, n0)) (hi_j0 : v1 = nI j0) (hb : j0 < n0) (hw12_r0 : WF12 μ r0) (hb_2 : i1 < 192) (h : G X (Rm (d + 2)) mX12_readLetters 124 [(0, .ref r0), (1, .int (nI i1))] [] (wi (wi μ q0 j0 (v2 ||| v3)) (r0 + 3) i1 ((iv (wi μ q0 j0 (v2 ||| v3)) (r0 + 3) i1) + 1)) 0 0 K) : G X (Rm (d + 2)) mX12_readLetters 112 [(0, .ref r0), (1, .int (nI i1))] [.int v3, .int v2, .int v1, .ref q0] μ 0 0 K := by
  refine G_ior d_X12_readLetters_112 ?_
  refine G_iast j0 hk_q0 hi_j0 hb d_X12_readLetters_113 ?_
  refine G_aload_n d_X12_readLetters_114 rfl 0 rfl ?_
  refine G_getR (r := r0 + 3) 12 3 (w12_kd hw12_r0) (w12_f3 hw12_r0) cok12 (by decide) rfl fl_X12_16 d_X12_readLetters_115 ?_
  refine G_iload_n d_X12_readLetters_118 rfl 1 rfl ?_
  refine G_dup2_11 d_X12_readLetters_119 rfl rfl ?_
  refine G_iald i1 (w12_k3 hw12_r0) rfl hb_2 d_X12_readLetters_120 ?_
  refine G_iconst d_X12_readLetters_121 ic_1 ?_
  refine G_iadd d_X12_readLetters_122 ?_
  refine G_iast i1 (w12_k3 hw12_r0) rfl hb_2 d_X12_readLetters_123 ?_
  exact h
theorem b_X12_readLetters_124 {X : cX} {d : Nat} {μ : mM} {K : Option Value → mM → Prop} {r0 : Nat} {l1 : Int32} (hw12_r0 : WF12 μ r0) (hc_readsOn : Ct X (Rm (d + 1)) mX12_readsOn [.ref r0] μ (fun r μ2 => G X (Rm (d + 2)) mX12_readLetters 128 [(0, .ref r0), (1, .int l1)] (r.toList ++ []) μ2 0 0 K)) : G X (Rm (d + 2)) mX12_readLetters 124 [(0, .ref r0), (1, .int l1)] [] μ 0 0 K := by
  refine G_aload_n d_X12_readLetters_124 rfl 0 rfl ?_
  refine G_callV (M' := mX12_readsOn) (R' := (Rm (d + 1))) (S := []) [] 12 (w12_kd hw12_r0) cok12 rfl ok_X12_readsOn ml_X12_108 pn_X12_readsOn (ru_Rm (by decide)) (Nat.le_of_ble_eq_true rfl) d_X12_readLetters_125 ?_
  exact hc_readsOn
theorem b_X12_readLetters_128 {X : cX} {d : Nat} {μ : mM} {K : Option Value → mM → Prop} {r0 : Nat} {l1 : Int32} (hw12_r0 : WF12 μ r0) (hc_nameHere : Ct X (Rm (d + 1)) mX12_nameHere [.ref r0] μ (fun r μ2 => G X (Rm (d + 2)) mX12_readLetters 132 [(0, .ref r0), (1, .int l1)] (r.toList ++ []) μ2 0 0 K)) : G X (Rm (d + 2)) mX12_readLetters 128 [(0, .ref r0), (1, .int l1)] [] μ 0 0 K := by
  refine G_aload_n d_X12_readLetters_128 rfl 0 rfl ?_
  refine G_callV (M' := mX12_nameHere) (R' := (Rm (d + 1))) (S := []) [] 12 (w12_kd hw12_r0) cok12 rfl ok_X12_nameHere ml_X12_114 pn_X12_nameHere (ru_Rm (by decide)) (Nat.le_of_ble_eq_true rfl) d_X12_readLetters_129 ?_
  exact hc_nameHere
theorem b_X12_readLetters_132 {X : cX} {d : Nat} {μ : mM} {K : Option Value → mM → Prop} {r0 : Nat} {l1 : Int32} {v0 : Int32} (h : G X (Rm (d + 2)) mX12_readLetters 5 [(0, .ref r0), (1, .int l1), (2, .int v0)] [] μ 0 0 K) : G X (Rm (d + 2)) mX12_readLetters 132 [(0, .ref r0), (1, .int l1)] [.int v0] μ 0 0 K := by
  refine G_istore_n (L' := [(2, .int v0), (0, .ref r0), (1, .int l1)]) d_X12_readLetters_132 rfl (by decide) rfl ?_
  refine G_goto (tgt := 5) d_X12_readLetters_133 rfl ?_
  refine G_sub (L' := [(0, .ref r0), (1, .int l1), (2, .int v0)]) [1, 2, 0] rfl ?_
  exact h
theorem d_X12_toldRead_0 : decode cX12_toldRead 0 = .ok (.aload_n 0, 1) := by decide +kernel
theorem d_X12_toldRead_1 : decode cX12_toldRead 1 = .ok (.bipush 97, 2) := by decide +kernel
theorem d_X12_toldRead_3 : decode cX12_toldRead 3 = .ok (.invokevirtual 105, 3) := by decide +kernel
theorem d_X12_toldRead_6 : decode cX12_toldRead 6 = .ok (.istore_n 2, 1) := by decide +kernel
theorem d_X12_toldRead_7 : decode cX12_toldRead 7 = .ok (.aload_n 0, 1) := by decide +kernel
theorem d_X12_toldRead_8 : decode cX12_toldRead 8 = .ok (.getfield 16, 3) := by decide +kernel
theorem d_X12_toldRead_11 : decode cX12_toldRead 11 = .ok (.iload_n 1, 1) := by decide +kernel
theorem d_X12_toldRead_12 : decode cX12_toldRead 12 = .ok (.iconst 4, 1) := by decide +kernel
theorem d_X12_toldRead_13 : decode cX12_toldRead 13 = .ok (.iadd, 1) := by decide +kernel
theorem d_X12_toldRead_14 : decode cX12_toldRead 14 = .ok (.iload_n 2, 1) := by decide +kernel
theorem d_X12_toldRead_15 : decode cX12_toldRead 15 = .ok (.iadd, 1) := by decide +kernel
theorem d_X12_toldRead_16 : decode cX12_toldRead 16 = .ok (.iaload, 1) := by decide +kernel
theorem d_X12_toldRead_17 : decode cX12_toldRead 17 = .ok (.istore_n 3, 1) := by decide +kernel
theorem d_X12_toldRead_18 : decode cX12_toldRead 18 = .ok (.aload_n 0, 1) := by decide +kernel
theorem d_X12_toldRead_19 : decode cX12_toldRead 19 = .ok (.getfield 69, 3) := by decide +kernel
theorem d_X12_toldRead_22 : decode cX12_toldRead 22 = .ok (.ifCond .ne 12, 3) := by decide +kernel
theorem d_X12_toldRead_25 : decode cX12_toldRead 25 = .ok (.iload_n 3, 1) := by decide +kernel
theorem d_X12_toldRead_26 : decode cX12_toldRead 26 = .ok (.ifCond .ne 8, 3) := by decide +kernel
theorem d_X12_toldRead_29 : decode cX12_toldRead 29 = .ok (.aload_n 0, 1) := by decide +kernel
theorem d_X12_toldRead_30 : decode cX12_toldRead 30 = .ok (.iconst 4, 1) := by decide +kernel
theorem d_X12_toldRead_31 : decode cX12_toldRead 31 = .ok (.invokevirtual 99, 3) := by decide +kernel
theorem d_X12_toldRead_34 : decode cX12_toldRead 34 = .ok (.aload_n 0, 1) := by decide +kernel
theorem d_X12_toldRead_35 : decode cX12_toldRead 35 = .ok (.invokevirtual 108, 3) := by decide +kernel
theorem d_X12_toldRead_38 : decode cX12_toldRead 38 = .ok (.iload_n 3, 1) := by decide +kernel
theorem d_X12_toldRead_39 : decode cX12_toldRead 39 = .ok (.iconst 1, 1) := by decide +kernel
theorem d_X12_toldRead_40 : decode cX12_toldRead 40 = .ok (.isub, 1) := by decide +kernel
theorem d_X12_toldRead_41 : decode cX12_toldRead 41 = .ok (.ireturn, 1) := by decide +kernel
theorem b_X12_toldRead_0 {X : cX} {d : Nat} {μ : mM} {K : Option Value → mM → Prop} {r0 : Nat} {l1 : Int32} (hw12_r0 : WF12 μ r0) (hc_letterRead : Ct X (Rm (d + 1)) mX12_letterRead [.ref r0, .int 97] μ (fun r μ2 => G X (Rm (d + 2)) mX12_toldRead 6 [(0, .ref r0), (1, .int l1)] (r.toList ++ []) μ2 0 0 K)) : G X (Rm (d + 2)) mX12_toldRead 0 [(0, .ref r0), (1, .int l1)] [] μ 0 0 K := by
  refine G_aload_n d_X12_toldRead_0 rfl 0 rfl ?_
  refine G_bipush d_X12_toldRead_1 bp_97 ?_
  refine G_callV (M' := mX12_letterRead) (R' := (Rm (d + 1))) (S := []) [.int 97] 12 (w12_kd hw12_r0) cok12 rfl ok_X12_letterRead ml_X12_105 pn_X12_letterRead (ru_Rm (by decide)) (Nat.le_of_ble_eq_true rfl) d_X12_toldRead_3 ?_
  exact hc_letterRead
theorem b_X12_toldRead_6 {X : cX} {d : Nat} {μ : mM} {K : Option Value → mM → Prop} {r0 : Nat} {i1 : Nat} {v0 : Int32} {j0 : Nat} (hw12_r0 : WF12 μ r0) (hi_j0 : ((nI i1) + 4) + v0 = nI j0) (hb : j0 < 192) (h : ¬ (iv μ r0 8) = 0 → G X (Rm (d + 2)) mX12_toldRead 34 [(0, .ref r0), (3, .int (iv μ (r0 + 3) j0))] [] μ 0 0 K) (h_2 : (iv μ r0 8) = 0 → ¬ (iv μ (r0 + 3) j0) = 0 → G X (Rm (d + 2)) mX12_toldRead 34 [(0, .ref r0), (3, .int (iv μ (r0 + 3) j0))] [] μ 0 0 K) (hc_fails : (iv μ r0 8) = 0 → (iv μ (r0 + 3) j0) = 0 → Ct X (Rm (d + 1)) mX12_fails [.ref r0, .int 4] μ (fun r μ2 => G X (Rm (d + 2)) mX12_toldRead 34 [(0, .ref r0), (3, .int (iv μ (r0 + 3) j0))] (r.toList ++ []) μ2 0 0 K)) : G X (Rm (d + 2)) mX12_toldRead 6 [(0, .ref r0), (1, .int (nI i1))] [.int v0] μ 0 0 K := by
  refine G_istore_n (L' := [(2, .int v0), (0, .ref r0), (1, .int (nI i1))]) d_X12_toldRead_6 rfl (by decide) rfl ?_
  refine G_aload_n d_X12_toldRead_7 rfl 1 rfl ?_
  refine G_getR (r := r0 + 3) 12 3 (w12_kd hw12_r0) (w12_f3 hw12_r0) cok12 (by decide) rfl fl_X12_16 d_X12_toldRead_8 ?_
  refine G_iload_n d_X12_toldRead_11 rfl 2 rfl ?_
  refine G_iconst d_X12_toldRead_12 ic_4 ?_
  refine G_iadd d_X12_toldRead_13 ?_
  refine G_iload_n d_X12_toldRead_14 rfl 0 rfl ?_
  refine G_iadd d_X12_toldRead_15 ?_
  refine G_iald j0 (w12_k3 hw12_r0) hi_j0 hb d_X12_toldRead_16 ?_
  refine G_istore_n (L' := [(3, .int (iv μ (r0 + 3) j0)), (2, .int v0), (0, .ref r0), (1, .int (nI i1))]) d_X12_toldRead_17 rfl (by decide) rfl ?_
  refine G_aload_n d_X12_toldRead_18 rfl 2 rfl ?_
  refine G_getI 12 8 (w12_kd hw12_r0) cok12 (by decide) rfl fl_X12_69 d_X12_toldRead_19 ?_
  refine G_if_ne (tgt := 34) d_X12_toldRead_22 rfl (fun c0 => ?_) (fun c0 => ?_)
  ·
    refine G_sub (L' := [(0, .ref r0), (3, .int (iv μ (r0 + 3) j0))]) [2, 0] rfl ?_
    exact (h c0)
  ·
    refine G_iload_n d_X12_toldRead_25 rfl 0 rfl ?_
    refine G_if_ne (tgt := 34) d_X12_toldRead_26 rfl (fun c1 => ?_) (fun c1 => ?_)
    ·
      refine G_sub (L' := [(0, .ref r0), (3, .int (iv μ (r0 + 3) j0))]) [2, 0] rfl ?_
      exact (h_2 c0 c1)
    ·
      refine G_aload_n d_X12_toldRead_29 rfl 2 rfl ?_
      refine G_iconst d_X12_toldRead_30 ic_4 ?_
      refine G_sub (L' := [(0, .ref r0), (3, .int (iv μ (r0 + 3) j0))]) [2, 0] rfl ?_
      refine G_callV (M' := mX12_fails) (R' := (Rm (d + 1))) (S := []) [.int 4] 12 (w12_kd hw12_r0) cok12 rfl ok_X12_fails ml_X12_99 pn_X12_fails (ru_Rm (by decide)) (Nat.le_of_ble_eq_true rfl) d_X12_toldRead_31 ?_
      exact (hc_fails c0 c1)
theorem b_X12_toldRead_34 {X : cX} {d : Nat} {μ : mM} {K : Option Value → mM → Prop} {r0 : Nat} {l3 : Int32} (hw12_r0 : WF12 μ r0) (hc_readsOn : Ct X (Rm (d + 1)) mX12_readsOn [.ref r0] μ (fun r μ2 => G X (Rm (d + 2)) mX12_toldRead 38 [(3, .int l3)] (r.toList ++ []) μ2 0 0 K)) : G X (Rm (d + 2)) mX12_toldRead 34 [(0, .ref r0), (3, .int l3)] [] μ 0 0 K := by
  refine G_aload_n d_X12_toldRead_34 rfl 0 rfl ?_
  refine G_sub (L' := [(3, .int l3)]) [1] rfl ?_
  refine G_callV (M' := mX12_readsOn) (R' := (Rm (d + 1))) (S := []) [] 12 (w12_kd hw12_r0) cok12 rfl ok_X12_readsOn ml_X12_108 pn_X12_readsOn (ru_Rm (by decide)) (Nat.le_of_ble_eq_true rfl) d_X12_toldRead_35 ?_
  exact hc_readsOn
theorem b_X12_toldRead_38 {X : cX} {d : Nat} {μ : mM} {K : Option Value → mM → Prop} {l3 : Int32} (hK : K (some (.int (l3 - 1))) μ) : G X (Rm (d + 2)) mX12_toldRead 38 [(3, .int l3)] [] μ 0 0 K := by
  refine G_iload_n d_X12_toldRead_38 rfl 0 rfl ?_
  refine G_iconst d_X12_toldRead_39 ic_1 ?_
  refine G_isub d_X12_toldRead_40 ?_
  exact G_iret rfl rfl rfl d_X12_toldRead_41 hK
