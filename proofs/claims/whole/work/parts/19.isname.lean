theorem d_X9_isName_0 : decode cX9_isName 0 = .ok (.aload_n 0, 1) := by decide +kernel
theorem d_X9_isName_1 : decode cX9_isName 1 = .ok (.getfield 28, 3) := by decide +kernel
theorem d_X9_isName_4 : decode cX9_isName 4 = .ok (.iconst 1, 1) := by decide +kernel
theorem d_X9_isName_5 : decode cX9_isName 5 = .ok (.if_icmp .ne 19, 3) := by decide +kernel
theorem d_X9_isName_8 : decode cX9_isName 8 = .ok (.aload_n 0, 1) := by decide +kernel
theorem d_X9_isName_9 : decode cX9_isName 9 = .ok (.getfield 19, 3) := by decide +kernel
theorem d_X9_isName_12 : decode cX9_isName 12 = .ok (.aload_n 0, 1) := by decide +kernel
theorem d_X9_isName_13 : decode cX9_isName 13 = .ok (.getfield 25, 3) := by decide +kernel
theorem d_X9_isName_16 : decode cX9_isName 16 = .ok (.isub, 1) := by decide +kernel
theorem d_X9_isName_17 : decode cX9_isName 17 = .ok (.aload_n 1, 1) := by decide +kernel
theorem d_X9_isName_18 : decode cX9_isName 18 = .ok (.invokevirtual 31, 3) := by decide +kernel
theorem d_X9_isName_21 : decode cX9_isName 21 = .ok (.if_icmp .eq 5, 3) := by decide +kernel
theorem d_X9_isName_24 : decode cX9_isName 24 = .ok (.iconst 0, 1) := by decide +kernel
theorem d_X9_isName_25 : decode cX9_isName 25 = .ok (.ireturn, 1) := by decide +kernel
theorem d_X9_isName_26 : decode cX9_isName 26 = .ok (.iconst 0, 1) := by decide +kernel
theorem d_X9_isName_27 : decode cX9_isName 27 = .ok (.istore_n 2, 1) := by decide +kernel
theorem d_X9_isName_28 : decode cX9_isName 28 = .ok (.iload_n 2, 1) := by decide +kernel
theorem d_X9_isName_29 : decode cX9_isName 29 = .ok (.aload_n 1, 1) := by decide +kernel
theorem d_X9_isName_30 : decode cX9_isName 30 = .ok (.invokevirtual 31, 3) := by decide +kernel
theorem d_X9_isName_33 : decode cX9_isName 33 = .ok (.if_icmp .ge 30, 3) := by decide +kernel
theorem d_X9_isName_36 : decode cX9_isName 36 = .ok (.aload_n 0, 1) := by decide +kernel
theorem d_X9_isName_37 : decode cX9_isName 37 = .ok (.getfield 9, 3) := by decide +kernel
theorem d_X9_isName_40 : decode cX9_isName 40 = .ok (.aload_n 0, 1) := by decide +kernel
theorem d_X9_isName_41 : decode cX9_isName 41 = .ok (.getfield 25, 3) := by decide +kernel
theorem d_X9_isName_44 : decode cX9_isName 44 = .ok (.iload_n 2, 1) := by decide +kernel
theorem d_X9_isName_45 : decode cX9_isName 45 = .ok (.iadd, 1) := by decide +kernel
theorem d_X9_isName_46 : decode cX9_isName 46 = .ok (.baload, 1) := by decide +kernel
theorem d_X9_isName_47 : decode cX9_isName 47 = .ok (.aload_n 1, 1) := by decide +kernel
theorem d_X9_isName_48 : decode cX9_isName 48 = .ok (.iload_n 2, 1) := by decide +kernel
theorem d_X9_isName_49 : decode cX9_isName 49 = .ok (.invokevirtual 36, 3) := by decide +kernel
theorem d_X9_isName_52 : decode cX9_isName 52 = .ok (.if_icmp .eq 5, 3) := by decide +kernel
theorem d_X9_isName_55 : decode cX9_isName 55 = .ok (.iconst 0, 1) := by decide +kernel
theorem d_X9_isName_56 : decode cX9_isName 56 = .ok (.ireturn, 1) := by decide +kernel
theorem d_X9_isName_57 : decode cX9_isName 57 = .ok (.iinc 2 1, 3) := by decide +kernel
theorem d_X9_isName_60 : decode cX9_isName 60 = .ok (.goto (-32), 3) := by decide +kernel
theorem d_X9_isName_63 : decode cX9_isName 63 = .ok (.iconst 1, 1) := by decide +kernel
theorem d_X9_isName_64 : decode cX9_isName 64 = .ok (.ireturn, 1) := by decide +kernel
theorem b_X9_isName_0 {X : cX} {d : Nat} {μ : mM} {K : Option Value → mM → Prop} {r0 : Nat} {w1 : Nat} (hw9_r0 : WF9 μ r0) (hK : ¬ (iv μ r0 2) = (1 : Int32) → K (some (.int 0)) μ) (hw13 : w1 < 13) (h : (iv μ r0 2) = (1 : Int32) → ((iv μ r0 4) - (iv μ r0 3)) = (nI (strN.getD w1 0)) → G X (Rm (d + 4)) mX9_isName 28 [(0, .ref r0), (1, .ref (X.2.2.2.2.1 w1)), (2, .int (nI 0))] [] μ 0 0 K) (hK_2 : (iv μ r0 2) = (1 : Int32) → ¬ ((iv μ r0 4) - (iv μ r0 3)) = (nI (strN.getD w1 0)) → K (some (.int 0)) μ) : G X (Rm (d + 4)) mX9_isName 0 [(0, .ref r0), (1, .ref (X.2.2.2.2.1 w1))] [] μ 0 0 K := by
  refine G_aload_n d_X9_isName_0 rfl 0 rfl ?_
  refine G_getI 9 2 (w9_kd hw9_r0) cok9 (by decide) rfl fl_X9_28 d_X9_isName_1 ?_
  refine G_iconst d_X9_isName_4 ic_1 ?_
  refine G_icmp_ne (tgt := 24) d_X9_isName_5 rfl (fun c0 => ?_) (fun c0 => ?_)
  ·
    refine G_iconst d_X9_isName_24 ic_0 ?_
    exact G_zret rfl rfl rfl rfl d_X9_isName_25 (hK c0)
  ·
    refine G_aload_n d_X9_isName_8 rfl 0 rfl ?_
    refine G_getI 9 4 (w9_kd hw9_r0) cok9 (by decide) rfl fl_X9_19 d_X9_isName_9 ?_
    refine G_aload_n d_X9_isName_12 rfl 0 rfl ?_
    refine G_getI 9 3 (w9_kd hw9_r0) cok9 (by decide) rfl fl_X9_25 d_X9_isName_13 ?_
    refine G_isub d_X9_isName_16 ?_
    refine G_aload_n d_X9_isName_17 rfl 1 rfl ?_
    refine G_callVS (M' := mJ0_length_8abf5) (R' := (Rm (d + 3))) (S := [.int ((iv μ r0 4) - (iv μ r0 3))]) (i := w1) [] hw13 rfl ok_J0_length_8abf5 ml_X9_31 pn_J0_length_8abf5 (ru_Rm (by decide)) (Nat.le_of_ble_eq_true rfl) d_X9_isName_18 (s_slen hw13 ?_)
    show G X (Rm (d + 4)) mX9_isName 21 [(0, .ref r0), (1, .ref (X.2.2.2.2.1 w1))] [.int (nI (strN.getD w1 0)), .int ((iv μ r0 4) - (iv μ r0 3))] μ 0 0 K
    refine G_icmp_eq (tgt := 26) d_X9_isName_21 rfl (fun c1 => ?_) (fun c1 => ?_)
    ·
      refine G_iconst d_X9_isName_26 ic_0 ?_
      refine G_istore_n (L' := [(2, .int (nI 0)), (0, .ref r0), (1, .ref (X.2.2.2.2.1 w1))]) d_X9_isName_27 rfl (by decide) rfl ?_
      refine G_sub (L' := [(0, .ref r0), (1, .ref (X.2.2.2.2.1 w1)), (2, .int (nI 0))]) [1, 2, 0] rfl ?_
      exact (h c0 c1)
    ·
      refine G_iconst d_X9_isName_24 ic_0 ?_
      exact G_zret rfl rfl rfl rfl d_X9_isName_25 (hK_2 c0 c1)
theorem b_X9_isName_28 {X : cX} {d : Nat} {μ : mM} {K : Option Value → mM → Prop} {r0 : Nat} {w1 : Nat} {i2 : Nat} {j0 : Nat} (hw13 : w1 < 13) (hK : (nI (strN.getD w1 0)) ≤ (nI i2) → K (some (.int 1)) μ) (hw9_r0 : WF9 μ r0) (hi_j0 : ¬ (nI (strN.getD w1 0)) ≤ (nI i2) → (iv μ r0 3) + (nI i2) = nI j0) (hb : ¬ (nI (strN.getD w1 0)) ≤ (nI i2) → j0 < 320) (hb_2 : ¬ (nI (strN.getD w1 0)) ≤ (nI i2) → i2 < (strN.getD w1 0)) (h : ¬ (nI (strN.getD w1 0)) ≤ (nI i2) → (iv μ (r0 + 1) j0) = ((strB.getD w1 []).getD i2 0) → G X (Rm (d + 4)) mX9_isName 28 [(0, .ref r0), (1, .ref (X.2.2.2.2.1 w1)), (2, .int (nI (i2 + 1)))] [] μ 0 0 K) (hK_2 : ¬ (nI (strN.getD w1 0)) ≤ (nI i2) → ¬ (iv μ (r0 + 1) j0) = ((strB.getD w1 []).getD i2 0) → K (some (.int 0)) μ) : G X (Rm (d + 4)) mX9_isName 28 [(0, .ref r0), (1, .ref (X.2.2.2.2.1 w1)), (2, .int (nI i2))] [] μ 0 0 K := by
  refine G_iload_n d_X9_isName_28 rfl 2 rfl ?_
  refine G_aload_n d_X9_isName_29 rfl 1 rfl ?_
  refine G_callVS (M' := mJ0_length_8abf5) (R' := (Rm (d + 3))) (S := [.int (nI i2)]) (i := w1) [] hw13 rfl ok_J0_length_8abf5 ml_X9_31 pn_J0_length_8abf5 (ru_Rm (by decide)) (Nat.le_of_ble_eq_true rfl) d_X9_isName_30 (s_slen hw13 ?_)
  show G X (Rm (d + 4)) mX9_isName 33 [(0, .ref r0), (1, .ref (X.2.2.2.2.1 w1)), (2, .int (nI i2))] [.int (nI (strN.getD w1 0)), .int (nI i2)] μ 0 0 K
  refine G_icmp_ge (tgt := 63) d_X9_isName_33 rfl (fun c0 => ?_) (fun c0 => ?_)
  ·
    refine G_iconst d_X9_isName_63 ic_1 ?_
    exact G_zret rfl rfl rfl rfl d_X9_isName_64 (hK c0)
  ·
    refine G_aload_n d_X9_isName_36 rfl 0 rfl ?_
    refine G_getR (r := r0 + 1) 9 0 (w9_kd hw9_r0) (w9_f0 hw9_r0) cok9 (by decide) rfl fl_X9_9 d_X9_isName_37 ?_
    refine G_aload_n d_X9_isName_40 rfl 0 rfl ?_
    refine G_getI 9 3 (w9_kd hw9_r0) cok9 (by decide) rfl fl_X9_25 d_X9_isName_41 ?_
    refine G_iload_n d_X9_isName_44 rfl 2 rfl ?_
    refine G_iadd d_X9_isName_45 ?_
    refine G_bald j0 (w9_k0 hw9_r0) (hi_j0 c0) (hb c0) d_X9_isName_46 ?_
    refine G_aload_n d_X9_isName_47 rfl 1 rfl ?_
    refine G_iload_n d_X9_isName_48 rfl 2 rfl ?_
    refine G_callVS (M' := mJ0_charAt_5068e) (R' := (Rm (d + 3))) (S := [.int (iv μ (r0 + 1) j0)]) (i := w1) [.int (nI i2)] hw13 rfl ok_J0_charAt_5068e ml_X9_36 pn_J0_charAt_5068e (ru_Rm (by decide)) (Nat.le_of_ble_eq_true rfl) d_X9_isName_49 (s_schar hw13 (hb_2 c0) ?_)
    show G X (Rm (d + 4)) mX9_isName 52 [(0, .ref r0), (1, .ref (X.2.2.2.2.1 w1)), (2, .int (nI i2))] [.int ((strB.getD w1 []).getD i2 0), .int (iv μ (r0 + 1) j0)] μ 0 0 K
    refine G_icmp_eq (tgt := 57) d_X9_isName_52 rfl (fun c1 => ?_) (fun c1 => ?_)
    ·
      refine G_iinc (L' := [(2, .int (nI (i2 + 1))), (0, .ref r0), (1, .ref (X.2.2.2.2.1 w1))]) d_X9_isName_57 2 rfl (inc1 i2) (by decide) rfl ?_
      refine G_goto (tgt := 28) d_X9_isName_60 rfl ?_
      refine G_sub (L' := [(0, .ref r0), (1, .ref (X.2.2.2.2.1 w1)), (2, .int (nI (i2 + 1)))]) [1, 2, 0] rfl ?_
      exact (h c0 c1)
    ·
      refine G_iconst d_X9_isName_55 ic_0 ?_
      exact G_zret rfl rfl rfl rfl d_X9_isName_56 (hK_2 c0 c1)
