theorem d_X8_meet_0 : decode cX8_meet 0 = .ok (.aload_n 0, 1) := by decide +kernel
theorem d_X8_meet_1 : decode cX8_meet 1 = .ok (.getfield 15, 3) := by decide +kernel
theorem d_X8_meet_4 : decode cX8_meet 4 = .ok (.aload_n 0, 1) := by decide +kernel
theorem d_X8_meet_5 : decode cX8_meet 5 = .ok (.getfield 57, 3) := by decide +kernel
theorem d_X8_meet_8 : decode cX8_meet 8 = .ok (.if_icmp .ne 13, 3) := by decide +kernel
theorem d_X8_meet_11 : decode cX8_meet 11 = .ok (.aload_n 0, 1) := by decide +kernel
theorem d_X8_meet_12 : decode cX8_meet 12 = .ok (.iload_n 1, 1) := by decide +kernel
theorem d_X8_meet_13 : decode cX8_meet 13 = .ok (.putfield 29, 3) := by decide +kernel
theorem d_X8_meet_16 : decode cX8_meet 16 = .ok (.aload_n 0, 1) := by decide +kernel
theorem d_X8_meet_17 : decode cX8_meet 17 = .ok (.iload_n 2, 1) := by decide +kernel
theorem d_X8_meet_18 : decode cX8_meet 18 = .ok (.putfield 19, 3) := by decide +kernel
theorem d_X8_meet_21 : decode cX8_meet 21 = .ok (.aload_n 0, 1) := by decide +kernel
theorem d_X8_meet_22 : decode cX8_meet 22 = .ok (.dup, 1) := by decide +kernel
theorem d_X8_meet_23 : decode cX8_meet 23 = .ok (.getfield 15, 3) := by decide +kernel
theorem d_X8_meet_26 : decode cX8_meet 26 = .ok (.iconst 1, 1) := by decide +kernel
theorem d_X8_meet_27 : decode cX8_meet 27 = .ok (.iadd, 1) := by decide +kernel
theorem d_X8_meet_28 : decode cX8_meet 28 = .ok (.putfield 15, 3) := by decide +kernel
theorem d_X8_meet_31 : decode cX8_meet 31 = .ok (.return_, 1) := by decide +kernel
theorem b_X8_meet_0 {X : cX} {d : Nat} {μ : mM} {K : Option Value → mM → Prop} {r0 : Nat} {l1 : Int32} {l2 : Int32} (hw8_r0 : WF8 μ r0) (h : ¬ (iv μ r0 2) = (iv μ r0 3) → G X (Rm d) mX8_meet 21 [(0, .ref r0)] [] μ 0 0 K) (hz : (iv μ r0 2) = (iv μ r0 3) → l2 = 0 ∨ l2 = 1) (h_2 : (iv μ r0 2) = (iv μ r0 3) → G X (Rm d) mX8_meet 21 [(0, .ref r0)] [] (wi (wi μ r0 0 l1) r0 1 l2) 0 0 K) : G X (Rm d) mX8_meet 0 [(0, .ref r0), (1, .int l1), (2, .int l2)] [] μ 0 0 K := by
  refine G_aload_n d_X8_meet_0 rfl 0 rfl ?_
  refine G_getI 8 2 (w8_kd hw8_r0) cok8 (by decide) rfl fl_X8_15 d_X8_meet_1 ?_
  refine G_aload_n d_X8_meet_4 rfl 0 rfl ?_
  refine G_getI 8 3 (w8_kd hw8_r0) cok8 (by decide) rfl fl_X8_57 d_X8_meet_5 ?_
  refine G_icmp_ne (tgt := 21) d_X8_meet_8 rfl (fun c0 => ?_) (fun c0 => ?_)
  ·
    refine G_sub (L' := [(0, .ref r0)]) [0] rfl ?_
    exact (h c0)
  ·
    refine G_aload_n d_X8_meet_11 rfl 0 rfl ?_
    refine G_iload_n d_X8_meet_12 rfl 1 rfl ?_
    refine G_putI 8 0 (w8_kd hw8_r0) rfl rfl cok8 (by decide) rfl (Or.inl rfl) fl_X8_29 d_X8_meet_13 ?_
    refine G_aload_n d_X8_meet_16 rfl 0 rfl ?_
    refine G_iload_n d_X8_meet_17 rfl 2 rfl ?_
    refine G_putI 8 1 (w8_kd hw8_r0) (nar_b (hz c0)) (fit_b (hz c0)) cok8 (by decide) rfl (Or.inl rfl) fl_X8_19 d_X8_meet_18 ?_
    refine G_sub (L' := [(0, .ref r0)]) [0] rfl ?_
    exact (h_2 c0)
theorem b_X8_meet_21 {X : cX} {d : Nat} {μ : mM} {K : Option Value → mM → Prop} {r0 : Nat} (hw8_r0 : WF8 μ r0) (hK : K none (wi μ r0 2 ((iv μ r0 2) + 1))) : G X (Rm d) mX8_meet 21 [(0, .ref r0)] [] μ 0 0 K := by
  refine G_aload_n d_X8_meet_21 rfl 0 rfl ?_
  refine G_dup d_X8_meet_22 rfl ?_
  refine G_getI 8 2 (w8_kd hw8_r0) cok8 (by decide) rfl fl_X8_15 d_X8_meet_23 ?_
  refine G_iconst d_X8_meet_26 ic_1 ?_
  refine G_iadd d_X8_meet_27 ?_
  refine G_putI 8 2 (w8_kd hw8_r0) rfl rfl cok8 (by decide) rfl (Or.inl rfl) fl_X8_15 d_X8_meet_28 ?_
  exact G_vret rfl rfl rfl d_X8_meet_31 hK
theorem d_X8_goThrough_0 : decode cX8_goThrough 0 = .ok (.aload_n 0, 1) := by decide +kernel
theorem d_X8_goThrough_1 : decode cX8_goThrough 1 = .ok (.iconst 0, 1) := by decide +kernel
theorem d_X8_goThrough_2 : decode cX8_goThrough 2 = .ok (.putfield 15, 3) := by decide +kernel
theorem d_X8_goThrough_5 : decode cX8_goThrough 5 = .ok (.aload_n 0, 1) := by decide +kernel
theorem d_X8_goThrough_6 : decode cX8_goThrough 6 = .ok (.iload_n 3, 1) := by decide +kernel
theorem d_X8_goThrough_7 : decode cX8_goThrough 7 = .ok (.putfield 57, 3) := by decide +kernel
theorem d_X8_goThrough_10 : decode cX8_goThrough 10 = .ok (.aload_n 0, 1) := by decide +kernel
theorem d_X8_goThrough_11 : decode cX8_goThrough 11 = .ok (.iconst (-1), 1) := by decide +kernel
theorem d_X8_goThrough_12 : decode cX8_goThrough 12 = .ok (.putfield 29, 3) := by decide +kernel
theorem d_X8_goThrough_15 : decode cX8_goThrough 15 = .ok (.aload_n 0, 1) := by decide +kernel
theorem d_X8_goThrough_16 : decode cX8_goThrough 16 = .ok (.iconst 0, 1) := by decide +kernel
theorem d_X8_goThrough_17 : decode cX8_goThrough 17 = .ok (.putfield 19, 3) := by decide +kernel
theorem d_X8_goThrough_20 : decode cX8_goThrough 20 = .ok (.aload_n 1, 1) := by decide +kernel
theorem d_X8_goThrough_21 : decode cX8_goThrough 21 = .ok (.iload_n 2, 1) := by decide +kernel
theorem d_X8_goThrough_22 : decode cX8_goThrough 22 = .ok (.invokevirtual 60, 3) := by decide +kernel
theorem d_X8_goThrough_25 : decode cX8_goThrough 25 = .ok (.istore 4, 2) := by decide +kernel
theorem d_X8_goThrough_27 : decode cX8_goThrough 27 = .ok (.iload 4, 2) := by decide +kernel
theorem d_X8_goThrough_29 : decode cX8_goThrough 29 = .ok (.iconst 2, 1) := by decide +kernel
theorem d_X8_goThrough_30 : decode cX8_goThrough 30 = .ok (.if_icmp .eq 9, 3) := by decide +kernel
theorem d_X8_goThrough_33 : decode cX8_goThrough 33 = .ok (.aload_n 0, 1) := by decide +kernel
theorem d_X8_goThrough_34 : decode cX8_goThrough 34 = .ok (.iconst (-1), 1) := by decide +kernel
theorem d_X8_goThrough_35 : decode cX8_goThrough 35 = .ok (.iconst 0, 1) := by decide +kernel
theorem d_X8_goThrough_36 : decode cX8_goThrough 36 = .ok (.invokevirtual 64, 3) := by decide +kernel
theorem d_X8_goThrough_39 : decode cX8_goThrough 39 = .ok (.iconst 0, 1) := by decide +kernel
theorem d_X8_goThrough_40 : decode cX8_goThrough 40 = .ok (.istore 5, 2) := by decide +kernel
theorem d_X8_goThrough_42 : decode cX8_goThrough 42 = .ok (.iload 5, 2) := by decide +kernel
theorem d_X8_goThrough_44 : decode cX8_goThrough 44 = .ok (.aload_n 1, 1) := by decide +kernel
theorem d_X8_goThrough_45 : decode cX8_goThrough 45 = .ok (.getfield 54, 3) := by decide +kernel
theorem d_X8_goThrough_48 : decode cX8_goThrough 48 = .ok (.if_icmp .ge 65, 3) := by decide +kernel
theorem d_X8_goThrough_51 : decode cX8_goThrough 51 = .ok (.aload_n 1, 1) := by decide +kernel
theorem d_X8_goThrough_52 : decode cX8_goThrough 52 = .ok (.getfield 36, 3) := by decide +kernel
theorem d_X8_goThrough_55 : decode cX8_goThrough 55 = .ok (.iload_n 2, 1) := by decide +kernel
theorem d_X8_goThrough_56 : decode cX8_goThrough 56 = .ok (.aaload, 1) := by decide +kernel
theorem d_X8_goThrough_57 : decode cX8_goThrough 57 = .ok (.iload 5, 2) := by decide +kernel
theorem d_X8_goThrough_59 : decode cX8_goThrough 59 = .ok (.iaload, 1) := by decide +kernel
theorem d_X8_goThrough_60 : decode cX8_goThrough 60 = .ok (.ifCond .eq 47, 3) := by decide +kernel
theorem d_X8_goThrough_63 : decode cX8_goThrough 63 = .ok (.aload_n 1, 1) := by decide +kernel
theorem d_X8_goThrough_64 : decode cX8_goThrough 64 = .ok (.getfield 36, 3) := by decide +kernel
theorem d_X8_goThrough_67 : decode cX8_goThrough 67 = .ok (.iload_n 2, 1) := by decide +kernel
theorem d_X8_goThrough_68 : decode cX8_goThrough 68 = .ok (.aaload, 1) := by decide +kernel
theorem d_X8_goThrough_69 : decode cX8_goThrough 69 = .ok (.iload 5, 2) := by decide +kernel
theorem d_X8_goThrough_71 : decode cX8_goThrough 71 = .ok (.iaload, 1) := by decide +kernel
theorem d_X8_goThrough_72 : decode cX8_goThrough 72 = .ok (.iload 4, 2) := by decide +kernel
theorem d_X8_goThrough_74 : decode cX8_goThrough 74 = .ok (.if_icmp .ne 33, 3) := by decide +kernel
theorem d_X8_goThrough_77 : decode cX8_goThrough 77 = .ok (.aload_n 0, 1) := by decide +kernel
theorem d_X8_goThrough_78 : decode cX8_goThrough 78 = .ok (.iload 5, 2) := by decide +kernel
theorem d_X8_goThrough_80 : decode cX8_goThrough 80 = .ok (.iconst 0, 1) := by decide +kernel
theorem d_X8_goThrough_81 : decode cX8_goThrough 81 = .ok (.invokevirtual 64, 3) := by decide +kernel
theorem d_X8_goThrough_84 : decode cX8_goThrough 84 = .ok (.aload_n 1, 1) := by decide +kernel
theorem d_X8_goThrough_85 : decode cX8_goThrough 85 = .ok (.getfield 50, 3) := by decide +kernel
theorem d_X8_goThrough_88 : decode cX8_goThrough 88 = .ok (.iload 5, 2) := by decide +kernel
theorem d_X8_goThrough_90 : decode cX8_goThrough 90 = .ok (.baload, 1) := by decide +kernel
theorem d_X8_goThrough_91 : decode cX8_goThrough 91 = .ok (.ifCond .eq 16, 3) := by decide +kernel
theorem d_X8_goThrough_94 : decode cX8_goThrough 94 = .ok (.iload 4, 2) := by decide +kernel
theorem d_X8_goThrough_96 : decode cX8_goThrough 96 = .ok (.iconst 1, 1) := by decide +kernel
theorem d_X8_goThrough_97 : decode cX8_goThrough 97 = .ok (.if_icmp .ne 10, 3) := by decide +kernel
theorem d_X8_goThrough_100 : decode cX8_goThrough 100 = .ok (.aload_n 0, 1) := by decide +kernel
theorem d_X8_goThrough_101 : decode cX8_goThrough 101 = .ok (.iload 5, 2) := by decide +kernel
theorem d_X8_goThrough_103 : decode cX8_goThrough 103 = .ok (.iconst 1, 1) := by decide +kernel
theorem d_X8_goThrough_104 : decode cX8_goThrough 104 = .ok (.invokevirtual 64, 3) := by decide +kernel
theorem d_X8_goThrough_107 : decode cX8_goThrough 107 = .ok (.iinc 5 1, 3) := by decide +kernel
theorem d_X8_goThrough_110 : decode cX8_goThrough 110 = .ok (.goto (-68), 3) := by decide +kernel
theorem d_X8_goThrough_113 : decode cX8_goThrough 113 = .ok (.return_, 1) := by decide +kernel
theorem b_X8_goThrough_0 {X : cX} {d : Nat} {μ : mM} {K : Option Value → mM → Prop} {r0 : Nat} {r1 : Nat} {l2 : Int32} {l3 : Int32} (hw8_r0 : WF8 μ r0) (hw5_r1 : WF5 μ r1) (hc_holding : Ct X (Rm (d + 1)) mX5_holding [.ref r1, .int l2] (wi (wi (wi (wi μ r0 2 0) r0 3 l3) r0 0 (-1)) r0 1 0) (fun r μ2 => G X (Rm (d + 2)) mX8_goThrough 25 [(0, .ref r0), (1, .ref r1), (2, .int l2)] (r.toList ++ []) μ2 0 0 K)) : G X (Rm (d + 2)) mX8_goThrough 0 [(0, .ref r0), (1, .ref r1), (2, .int l2), (3, .int l3)] [] μ 0 0 K := by
  refine G_aload_n d_X8_goThrough_0 rfl 0 rfl ?_
  refine G_iconst d_X8_goThrough_1 ic_0 ?_
  refine G_putI 8 2 (w8_kd hw8_r0) rfl rfl cok8 (by decide) rfl (Or.inl rfl) fl_X8_15 d_X8_goThrough_2 ?_
  refine G_aload_n d_X8_goThrough_5 rfl 0 rfl ?_
  refine G_iload_n d_X8_goThrough_6 rfl 3 rfl ?_
  refine G_putI 8 3 (w8_kd hw8_r0) rfl rfl cok8 (by decide) rfl (Or.inl rfl) fl_X8_57 d_X8_goThrough_7 ?_
  refine G_aload_n d_X8_goThrough_10 rfl 0 rfl ?_
  refine G_iconst d_X8_goThrough_11 ic_m1 ?_
  refine G_putI 8 0 (w8_kd hw8_r0) rfl rfl cok8 (by decide) rfl (Or.inl rfl) fl_X8_29 d_X8_goThrough_12 ?_
  refine G_aload_n d_X8_goThrough_15 rfl 0 rfl ?_
  refine G_iconst d_X8_goThrough_16 ic_0 ?_
  refine G_putI 8 1 (w8_kd hw8_r0) rfl rfl cok8 (by decide) rfl (Or.inl rfl) fl_X8_19 d_X8_goThrough_17 ?_
  refine G_aload_n d_X8_goThrough_20 rfl 1 rfl ?_
  refine G_iload_n d_X8_goThrough_21 rfl 2 rfl ?_
  refine G_sub (L' := [(0, .ref r0), (1, .ref r1), (2, .int l2)]) [0, 1, 2] rfl ?_
  refine G_callV (M' := mX5_holding) (R' := (Rm (d + 1))) (S := []) [.int l2] 5 (w5_kd hw5_r1) cok5 rfl ok_X5_holding ml_X8_60 pn_X5_holding (ru_Rm (by decide)) (Nat.le_of_ble_eq_true rfl) d_X8_goThrough_22 ?_
  exact hc_holding
theorem b_X8_goThrough_25 {X : cX} {d : Nat} {μ : mM} {K : Option Value → mM → Prop} {r0 : Nat} {r1 : Nat} {l2 : Int32} {v0 : Int32} (h : v0 = (2 : Int32) → G X (Rm (d + 2)) mX8_goThrough 39 [(0, .ref r0), (1, .ref r1), (2, .int l2), (4, .int v0)] [] μ 0 0 K) (hw8_r0 : WF8 μ r0) (hc_meet : ¬ v0 = (2 : Int32) → Ct X (Rm (d + 1)) mX8_meet [.ref r0, .int (-1), .int 0] μ (fun r μ2 => G X (Rm (d + 2)) mX8_goThrough 39 [(0, .ref r0), (1, .ref r1), (2, .int l2), (4, .int v0)] (r.toList ++ []) μ2 0 0 K)) : G X (Rm (d + 2)) mX8_goThrough 25 [(0, .ref r0), (1, .ref r1), (2, .int l2)] [.int v0] μ 0 0 K := by
  refine G_istore (L' := [(4, .int v0), (0, .ref r0), (1, .ref r1), (2, .int l2)]) d_X8_goThrough_25 (by decide) rfl ?_
  refine G_iload d_X8_goThrough_27 0 rfl ?_
  refine G_iconst d_X8_goThrough_29 ic_2 ?_
  refine G_icmp_eq (tgt := 39) d_X8_goThrough_30 rfl (fun c0 => ?_) (fun c0 => ?_)
  ·
    refine G_sub (L' := [(0, .ref r0), (1, .ref r1), (2, .int l2), (4, .int v0)]) [1, 2, 3, 0] rfl ?_
    exact (h c0)
  ·
    refine G_aload_n d_X8_goThrough_33 rfl 1 rfl ?_
    refine G_iconst d_X8_goThrough_34 ic_m1 ?_
    refine G_iconst d_X8_goThrough_35 ic_0 ?_
    refine G_sub (L' := [(0, .ref r0), (1, .ref r1), (2, .int l2), (4, .int v0)]) [1, 2, 3, 0] rfl ?_
    refine G_callV (M' := mX8_meet) (R' := (Rm (d + 1))) (S := []) [.int (-1), .int 0] 8 (w8_kd hw8_r0) cok8 rfl ok_X8_meet ml_X8_64 pn_X8_meet (ru_Rm (by decide)) (Nat.le_of_ble_eq_true rfl) d_X8_goThrough_36 ?_
    exact (hc_meet c0)
theorem b_X8_goThrough_39 {X : cX} {d : Nat} {μ : mM} {K : Option Value → mM → Prop} {r0 : Nat} {r1 : Nat} {l2 : Int32} {l4 : Int32} (h : G X (Rm (d + 2)) mX8_goThrough 42 [(0, .ref r0), (1, .ref r1), (2, .int l2), (4, .int l4), (5, .int (nI 0))] [] μ 0 0 K) : G X (Rm (d + 2)) mX8_goThrough 39 [(0, .ref r0), (1, .ref r1), (2, .int l2), (4, .int l4)] [] μ 0 0 K := by
  refine G_iconst d_X8_goThrough_39 ic_0 ?_
  refine G_istore (L' := [(5, .int (nI 0)), (0, .ref r0), (1, .ref r1), (2, .int l2), (4, .int l4)]) d_X8_goThrough_40 (by decide) rfl ?_
  refine G_sub (L' := [(0, .ref r0), (1, .ref r1), (2, .int l2), (4, .int l4), (5, .int (nI 0))]) [1, 2, 3, 4, 0] rfl ?_
  exact h
theorem b_X8_goThrough_42 {X : cX} {d : Nat} {μ : mM} {K : Option Value → mM → Prop} {r0 : Nat} {r1 : Nat} {i2 : Nat} {l4 : Int32} {i5 : Nat} (hw5_r1 : WF5 μ r1) (hK : (iv μ r1 0) ≤ (nI i5) → K none μ) (hb : ¬ (iv μ r1 0) ≤ (nI i5) → i2 < 3) (hb_2 : ¬ (iv μ r1 0) ≤ (nI i5) → i5 < 6) (h : ¬ (iv μ r1 0) ≤ (nI i5) → (iv μ (r1 + 3 + i2) i5) = 0 → G X (Rm (d + 2)) mX8_goThrough 107 [(0, .ref r0), (1, .ref r1), (2, .int (nI i2)), (4, .int l4), (5, .int (nI i5))] [] μ 0 0 K) (hb_3 : ¬ (iv μ r1 0) ≤ (nI i5) → ¬ (iv μ (r1 + 3 + i2) i5) = 0 → i2 < 3) (hb_4 : ¬ (iv μ r1 0) ≤ (nI i5) → ¬ (iv μ (r1 + 3 + i2) i5) = 0 → i5 < 6) (h_2 : ¬ (iv μ r1 0) ≤ (nI i5) → ¬ (iv μ (r1 + 3 + i2) i5) = 0 → ¬ (iv μ (r1 + 3 + i2) i5) = l4 → G X (Rm (d + 2)) mX8_goThrough 107 [(0, .ref r0), (1, .ref r1), (2, .int (nI i2)), (4, .int l4), (5, .int (nI i5))] [] μ 0 0 K) (hw8_r0 : WF8 μ r0) (hc_meet : ¬ (iv μ r1 0) ≤ (nI i5) → ¬ (iv μ (r1 + 3 + i2) i5) = 0 → (iv μ (r1 + 3 + i2) i5) = l4 → Ct X (Rm (d + 1)) mX8_meet [.ref r0, .int (nI i5), .int 0] μ (fun r μ2 => G X (Rm (d + 2)) mX8_goThrough 84 [(0, .ref r0), (1, .ref r1), (2, .int (nI i2)), (4, .int l4), (5, .int (nI i5))] (r.toList ++ []) μ2 0 0 K)) : G X (Rm (d + 2)) mX8_goThrough 42 [(0, .ref r0), (1, .ref r1), (2, .int (nI i2)), (4, .int l4), (5, .int (nI i5))] [] μ 0 0 K := by
  refine G_iload d_X8_goThrough_42 4 rfl ?_
  refine G_aload_n d_X8_goThrough_44 rfl 1 rfl ?_
  refine G_getI 5 0 (w5_kd hw5_r1) cok5 (by decide) rfl fl_X8_54 d_X8_goThrough_45 ?_
  refine G_icmp_ge (tgt := 113) d_X8_goThrough_48 rfl (fun c0 => ?_) (fun c0 => ?_)
  ·
    exact G_vret rfl rfl rfl d_X8_goThrough_113 (hK c0)
  ·
    refine G_aload_n d_X8_goThrough_51 rfl 1 rfl ?_
    refine G_getR (r := r1 + 2) 5 2 (w5_kd hw5_r1) (w5_f2 hw5_r1) cok5 (by decide) rfl fl_X8_36 d_X8_goThrough_52 ?_
    refine G_iload_n d_X8_goThrough_55 rfl 2 rfl ?_
    refine G_aaldA (r := r1 + 3 + i2) i2 (w5_k2 hw5_r1) rfl (hb c0) (w5_r2 hw5_r1 i2 (hb c0)) d_X8_goThrough_56 ?_
    refine G_iload d_X8_goThrough_57 4 rfl ?_
    refine G_iald i5 (w5_q2 hw5_r1 i2 (hb c0)) rfl (hb_2 c0) d_X8_goThrough_59 ?_
    refine G_if_eq (tgt := 107) d_X8_goThrough_60 rfl (fun c1 => ?_) (fun c1 => ?_)
    ·
      exact (h c0 c1)
    ·
      refine G_aload_n d_X8_goThrough_63 rfl 1 rfl ?_
      refine G_getR (r := r1 + 2) 5 2 (w5_kd hw5_r1) (w5_f2 hw5_r1) cok5 (by decide) rfl fl_X8_36 d_X8_goThrough_64 ?_
      refine G_iload_n d_X8_goThrough_67 rfl 2 rfl ?_
      refine G_aaldA (r := r1 + 3 + i2) i2 (w5_k2 hw5_r1) rfl (hb_3 c0 c1) (w5_r2 hw5_r1 i2 (hb_3 c0 c1)) d_X8_goThrough_68 ?_
      refine G_iload d_X8_goThrough_69 4 rfl ?_
      refine G_iald i5 (w5_q2 hw5_r1 i2 (hb_3 c0 c1)) rfl (hb_4 c0 c1) d_X8_goThrough_71 ?_
      refine G_iload d_X8_goThrough_72 3 rfl ?_
      refine G_icmp_ne (tgt := 107) d_X8_goThrough_74 rfl (fun c2 => ?_) (fun c2 => ?_)
      ·
        exact (h_2 c0 c1 c2)
      ·
        refine G_aload_n d_X8_goThrough_77 rfl 0 rfl ?_
        refine G_iload d_X8_goThrough_78 4 rfl ?_
        refine G_iconst d_X8_goThrough_80 ic_0 ?_
        refine G_callV (M' := mX8_meet) (R' := (Rm (d + 1))) (S := []) [.int (nI i5), .int 0] 8 (w8_kd hw8_r0) cok8 rfl ok_X8_meet ml_X8_64 pn_X8_meet (ru_Rm (by decide)) (Nat.le_of_ble_eq_true rfl) d_X8_goThrough_81 ?_
        exact (hc_meet c0 c1 c2)
theorem b_X8_goThrough_84 {X : cX} {d : Nat} {μ : mM} {K : Option Value → mM → Prop} {r0 : Nat} {r1 : Nat} {l2 : Int32} {l4 : Int32} {i5 : Nat} (hw5_r1 : WF5 μ r1) (hb : i5 < 6) (h : (iv μ (r1 + 1) i5) = 0 → G X (Rm (d + 2)) mX8_goThrough 107 [(0, .ref r0), (1, .ref r1), (2, .int l2), (4, .int l4), (5, .int (nI i5))] [] μ 0 0 K) (h_2 : ¬ (iv μ (r1 + 1) i5) = 0 → ¬ l4 = (1 : Int32) → G X (Rm (d + 2)) mX8_goThrough 107 [(0, .ref r0), (1, .ref r1), (2, .int l2), (4, .int l4), (5, .int (nI i5))] [] μ 0 0 K) (hw8_r0 : WF8 μ r0) (hc_meet : ¬ (iv μ (r1 + 1) i5) = 0 → l4 = (1 : Int32) → Ct X (Rm (d + 1)) mX8_meet [.ref r0, .int (nI i5), .int 1] μ (fun r μ2 => G X (Rm (d + 2)) mX8_goThrough 107 [(0, .ref r0), (1, .ref r1), (2, .int l2), (4, .int l4), (5, .int (nI i5))] (r.toList ++ []) μ2 0 0 K)) : G X (Rm (d + 2)) mX8_goThrough 84 [(0, .ref r0), (1, .ref r1), (2, .int l2), (4, .int l4), (5, .int (nI i5))] [] μ 0 0 K := by
  refine G_aload_n d_X8_goThrough_84 rfl 1 rfl ?_
  refine G_getR (r := r1 + 1) 5 1 (w5_kd hw5_r1) (w5_f1 hw5_r1) cok5 (by decide) rfl fl_X8_50 d_X8_goThrough_85 ?_
  refine G_iload d_X8_goThrough_88 4 rfl ?_
  refine G_zald i5 (w5_k1 hw5_r1) rfl hb d_X8_goThrough_90 ?_
  refine G_if_eq (tgt := 107) d_X8_goThrough_91 rfl (fun c0 => ?_) (fun c0 => ?_)
  ·
    exact (h c0)
  ·
    refine G_iload d_X8_goThrough_94 3 rfl ?_
    refine G_iconst d_X8_goThrough_96 ic_1 ?_
    refine G_icmp_ne (tgt := 107) d_X8_goThrough_97 rfl (fun c1 => ?_) (fun c1 => ?_)
    ·
      exact (h_2 c0 c1)
    ·
      refine G_aload_n d_X8_goThrough_100 rfl 0 rfl ?_
      refine G_iload d_X8_goThrough_101 4 rfl ?_
      refine G_iconst d_X8_goThrough_103 ic_1 ?_
      refine G_callV (M' := mX8_meet) (R' := (Rm (d + 1))) (S := []) [.int (nI i5), .int 1] 8 (w8_kd hw8_r0) cok8 rfl ok_X8_meet ml_X8_64 pn_X8_meet (ru_Rm (by decide)) (Nat.le_of_ble_eq_true rfl) d_X8_goThrough_104 ?_
      exact (hc_meet c0 c1)
theorem b_X8_goThrough_107 {X : cX} {d : Nat} {μ : mM} {K : Option Value → mM → Prop} {r0 : Nat} {r1 : Nat} {l2 : Int32} {l4 : Int32} {i5 : Nat} (h : G X (Rm (d + 2)) mX8_goThrough 42 [(0, .ref r0), (1, .ref r1), (2, .int l2), (4, .int l4), (5, .int (nI (i5 + 1)))] [] μ 0 0 K) : G X (Rm (d + 2)) mX8_goThrough 107 [(0, .ref r0), (1, .ref r1), (2, .int l2), (4, .int l4), (5, .int (nI i5))] [] μ 0 0 K := by
  refine G_iinc (L' := [(5, .int (nI (i5 + 1))), (0, .ref r0), (1, .ref r1), (2, .int l2), (4, .int l4)]) d_X8_goThrough_107 4 rfl (inc1 i5) (by decide) rfl ?_
  refine G_goto (tgt := 42) d_X8_goThrough_110 rfl ?_
  refine G_sub (L' := [(0, .ref r0), (1, .ref r1), (2, .int l2), (4, .int l4), (5, .int (nI (i5 + 1)))]) [1, 2, 3, 4, 0] rfl ?_
  exact h
theorem d_X8_number_0 : decode cX8_number 0 = .ok (.aload_n 0, 1) := by decide +kernel
theorem d_X8_number_1 : decode cX8_number 1 = .ok (.aload_n 1, 1) := by decide +kernel
theorem d_X8_number_2 : decode cX8_number 2 = .ok (.iload_n 2, 1) := by decide +kernel
theorem d_X8_number_3 : decode cX8_number 3 = .ok (.iconst (-1), 1) := by decide +kernel
theorem d_X8_number_4 : decode cX8_number 4 = .ok (.invokevirtual 9, 3) := by decide +kernel
theorem d_X8_number_7 : decode cX8_number 7 = .ok (.aload_n 0, 1) := by decide +kernel
theorem d_X8_number_8 : decode cX8_number 8 = .ok (.getfield 15, 3) := by decide +kernel
theorem d_X8_number_11 : decode cX8_number 11 = .ok (.ireturn, 1) := by decide +kernel
theorem b_X8_number_0 {X : cX} {d : Nat} {μ : mM} {K : Option Value → mM → Prop} {r0 : Nat} {r1 : Nat} {l2 : Int32} (hw8_r0 : WF8 μ r0) (hc_goThrough : Ct X (Rm (d + 2)) mX8_goThrough [.ref r0, .ref r1, .int l2, .int (-1)] μ (fun r μ2 => G X (Rm (d + 3)) mX8_number 7 [(0, .ref r0)] (r.toList ++ []) μ2 0 0 K)) : G X (Rm (d + 3)) mX8_number 0 [(0, .ref r0), (1, .ref r1), (2, .int l2)] [] μ 0 0 K := by
  refine G_aload_n d_X8_number_0 rfl 0 rfl ?_
  refine G_aload_n d_X8_number_1 rfl 1 rfl ?_
  refine G_iload_n d_X8_number_2 rfl 2 rfl ?_
  refine G_iconst d_X8_number_3 ic_m1 ?_
  refine G_sub (L' := [(0, .ref r0)]) [0] rfl ?_
  refine G_callV (M' := mX8_goThrough) (R' := (Rm (d + 2))) (S := []) [.ref r1, .int l2, .int (-1)] 8 (w8_kd hw8_r0) cok8 rfl ok_X8_goThrough ml_X8_9 pn_X8_goThrough (ru_Rm (by decide)) (Nat.le_of_ble_eq_true rfl) d_X8_number_4 ?_
  exact hc_goThrough
theorem b_X8_number_7 {X : cX} {d : Nat} {μ : mM} {K : Option Value → mM → Prop} {r0 : Nat} (hw8_r0 : WF8 μ r0) (hK : K (some (.int (iv μ r0 2))) μ) : G X (Rm (d + 3)) mX8_number 7 [(0, .ref r0)] [] μ 0 0 K := by
  refine G_aload_n d_X8_number_7 rfl 0 rfl ?_
  refine G_getI 8 2 (w8_kd hw8_r0) cok8 (by decide) rfl fl_X8_15 d_X8_number_8 ?_
  exact G_iret rfl rfl rfl d_X8_number_11 hK
theorem d_X8_appendOthersOf_0 : decode cX8_appendOthersOf 0 = .ok (.aload_n 0, 1) := by decide +kernel
theorem d_X8_appendOthersOf_1 : decode cX8_appendOthersOf 1 = .ok (.getfield 54, 3) := by decide +kernel
theorem d_X8_appendOthersOf_4 : decode cX8_appendOthersOf 4 = .ok (.istore_n 2, 1) := by decide +kernel
theorem d_X8_appendOthersOf_5 : decode cX8_appendOthersOf 5 = .ok (.iload_n 2, 1) := by decide +kernel
theorem d_X8_appendOthersOf_6 : decode cX8_appendOthersOf 6 = .ok (.bipush 6, 2) := by decide +kernel
theorem d_X8_appendOthersOf_8 : decode cX8_appendOthersOf 8 = .ok (.if_icmp .lt 4, 3) := by decide +kernel
theorem d_X8_appendOthersOf_11 : decode cX8_appendOthersOf 11 = .ok (.return_, 1) := by decide +kernel
theorem d_X8_appendOthersOf_12 : decode cX8_appendOthersOf 12 = .ok (.iconst 0, 1) := by decide +kernel
theorem d_X8_appendOthersOf_13 : decode cX8_appendOthersOf 13 = .ok (.istore_n 3, 1) := by decide +kernel
theorem d_X8_appendOthersOf_14 : decode cX8_appendOthersOf 14 = .ok (.iload_n 3, 1) := by decide +kernel
theorem d_X8_appendOthersOf_15 : decode cX8_appendOthersOf 15 = .ok (.iconst 3, 1) := by decide +kernel
theorem d_X8_appendOthersOf_16 : decode cX8_appendOthersOf 16 = .ok (.if_icmp .ge 25, 3) := by decide +kernel
theorem d_X8_appendOthersOf_19 : decode cX8_appendOthersOf 19 = .ok (.aload_n 0, 1) := by decide +kernel
theorem d_X8_appendOthersOf_20 : decode cX8_appendOthersOf 20 = .ok (.getfield 36, 3) := by decide +kernel
theorem d_X8_appendOthersOf_23 : decode cX8_appendOthersOf 23 = .ok (.iload_n 3, 1) := by decide +kernel
theorem d_X8_appendOthersOf_24 : decode cX8_appendOthersOf 24 = .ok (.aaload, 1) := by decide +kernel
theorem d_X8_appendOthersOf_25 : decode cX8_appendOthersOf 25 = .ok (.iload_n 2, 1) := by decide +kernel
theorem d_X8_appendOthersOf_26 : decode cX8_appendOthersOf 26 = .ok (.aload_n 0, 1) := by decide +kernel
theorem d_X8_appendOthersOf_27 : decode cX8_appendOthersOf 27 = .ok (.getfield 36, 3) := by decide +kernel
theorem d_X8_appendOthersOf_30 : decode cX8_appendOthersOf 30 = .ok (.iload_n 3, 1) := by decide +kernel
theorem d_X8_appendOthersOf_31 : decode cX8_appendOthersOf 31 = .ok (.aaload, 1) := by decide +kernel
theorem d_X8_appendOthersOf_32 : decode cX8_appendOthersOf 32 = .ok (.iload_n 1, 1) := by decide +kernel
theorem d_X8_appendOthersOf_33 : decode cX8_appendOthersOf 33 = .ok (.iaload, 1) := by decide +kernel
theorem d_X8_appendOthersOf_34 : decode cX8_appendOthersOf 34 = .ok (.iastore, 1) := by decide +kernel
theorem d_X8_appendOthersOf_35 : decode cX8_appendOthersOf 35 = .ok (.iinc 3 1, 3) := by decide +kernel
theorem d_X8_appendOthersOf_38 : decode cX8_appendOthersOf 38 = .ok (.goto (-24), 3) := by decide +kernel
theorem d_X8_appendOthersOf_41 : decode cX8_appendOthersOf 41 = .ok (.aload_n 0, 1) := by decide +kernel
theorem d_X8_appendOthersOf_42 : decode cX8_appendOthersOf 42 = .ok (.getfield 68, 3) := by decide +kernel
theorem d_X8_appendOthersOf_45 : decode cX8_appendOthersOf 45 = .ok (.iload_n 1, 1) := by decide +kernel
theorem d_X8_appendOthersOf_46 : decode cX8_appendOthersOf 46 = .ok (.aaload, 1) := by decide +kernel
theorem d_X8_appendOthersOf_47 : decode cX8_appendOthersOf 47 = .ok (.iconst 0, 1) := by decide +kernel
theorem d_X8_appendOthersOf_48 : decode cX8_appendOthersOf 48 = .ok (.aload_n 0, 1) := by decide +kernel
theorem d_X8_appendOthersOf_49 : decode cX8_appendOthersOf 49 = .ok (.getfield 68, 3) := by decide +kernel
theorem d_X8_appendOthersOf_52 : decode cX8_appendOthersOf 52 = .ok (.iload_n 2, 1) := by decide +kernel
theorem d_X8_appendOthersOf_53 : decode cX8_appendOthersOf 53 = .ok (.aaload, 1) := by decide +kernel
theorem d_X8_appendOthersOf_54 : decode cX8_appendOthersOf 54 = .ok (.iconst 0, 1) := by decide +kernel
theorem d_X8_appendOthersOf_55 : decode cX8_appendOthersOf 55 = .ok (.bipush 6, 2) := by decide +kernel
theorem d_X8_appendOthersOf_57 : decode cX8_appendOthersOf 57 = .ok (.invokestatic 71, 3) := by decide +kernel
theorem d_X8_appendOthersOf_60 : decode cX8_appendOthersOf 60 = .ok (.iconst 0, 1) := by decide +kernel
theorem d_X8_appendOthersOf_61 : decode cX8_appendOthersOf 61 = .ok (.istore_n 3, 1) := by decide +kernel
theorem d_X8_appendOthersOf_62 : decode cX8_appendOthersOf 62 = .ok (.iload_n 3, 1) := by decide +kernel
theorem d_X8_appendOthersOf_63 : decode cX8_appendOthersOf 63 = .ok (.iload_n 2, 1) := by decide +kernel
theorem d_X8_appendOthersOf_64 : decode cX8_appendOthersOf 64 = .ok (.if_icmp .gt 25, 3) := by decide +kernel
theorem d_X8_appendOthersOf_67 : decode cX8_appendOthersOf 67 = .ok (.aload_n 0, 1) := by decide +kernel
theorem d_X8_appendOthersOf_68 : decode cX8_appendOthersOf 68 = .ok (.getfield 68, 3) := by decide +kernel
theorem d_X8_appendOthersOf_71 : decode cX8_appendOthersOf 71 = .ok (.iload_n 3, 1) := by decide +kernel
theorem d_X8_appendOthersOf_72 : decode cX8_appendOthersOf 72 = .ok (.aaload, 1) := by decide +kernel
theorem d_X8_appendOthersOf_73 : decode cX8_appendOthersOf 73 = .ok (.iload_n 2, 1) := by decide +kernel
theorem d_X8_appendOthersOf_74 : decode cX8_appendOthersOf 74 = .ok (.aload_n 0, 1) := by decide +kernel
theorem d_X8_appendOthersOf_75 : decode cX8_appendOthersOf 75 = .ok (.getfield 68, 3) := by decide +kernel
theorem d_X8_appendOthersOf_78 : decode cX8_appendOthersOf 78 = .ok (.iload_n 3, 1) := by decide +kernel
theorem d_X8_appendOthersOf_79 : decode cX8_appendOthersOf 79 = .ok (.aaload, 1) := by decide +kernel
theorem d_X8_appendOthersOf_80 : decode cX8_appendOthersOf 80 = .ok (.iload_n 1, 1) := by decide +kernel
theorem d_X8_appendOthersOf_81 : decode cX8_appendOthersOf 81 = .ok (.iaload, 1) := by decide +kernel
theorem d_X8_appendOthersOf_82 : decode cX8_appendOthersOf 82 = .ok (.iastore, 1) := by decide +kernel
theorem d_X8_appendOthersOf_83 : decode cX8_appendOthersOf 83 = .ok (.iinc 3 1, 3) := by decide +kernel
theorem d_X8_appendOthersOf_86 : decode cX8_appendOthersOf 86 = .ok (.goto (-24), 3) := by decide +kernel
theorem d_X8_appendOthersOf_89 : decode cX8_appendOthersOf 89 = .ok (.aload_n 0, 1) := by decide +kernel
theorem d_X8_appendOthersOf_90 : decode cX8_appendOthersOf 90 = .ok (.iconst 1, 1) := by decide +kernel
theorem d_X8_appendOthersOf_91 : decode cX8_appendOthersOf 91 = .ok (.invokevirtual 77, 3) := by decide +kernel
theorem d_X8_appendOthersOf_94 : decode cX8_appendOthersOf 94 = .ok (.return_, 1) := by decide +kernel
theorem b_X8_appendOthersOf_0 {X : cX} {d : Nat} {μ : mM} {K : Option Value → mM → Prop} {r0 : Nat} {l1 : Int32} (hw5_r0 : WF5 μ r0) (h : (iv μ r0 0) < (6 : Int32) → G X (Rm (d + 1)) mX8_appendOthersOf 14 [(0, .ref r0), (1, .int l1), (2, .int (iv μ r0 0)), (3, .int (nI 0))] [] μ 0 0 K) (hK : ¬ (iv μ r0 0) < (6 : Int32) → K none μ) : G X (Rm (d + 1)) mX8_appendOthersOf 0 [(0, .ref r0), (1, .int l1)] [] μ 0 0 K := by
  refine G_aload_n d_X8_appendOthersOf_0 rfl 0 rfl ?_
  refine G_getI 5 0 (w5_kd hw5_r0) cok5 (by decide) rfl fl_X8_54 d_X8_appendOthersOf_1 ?_
  refine G_istore_n (L' := [(2, .int (iv μ r0 0)), (0, .ref r0), (1, .int l1)]) d_X8_appendOthersOf_4 rfl (by decide) rfl ?_
  refine G_iload_n d_X8_appendOthersOf_5 rfl 0 rfl ?_
  refine G_bipush d_X8_appendOthersOf_6 bp_6 ?_
  refine G_icmp_lt (tgt := 12) d_X8_appendOthersOf_8 rfl (fun c0 => ?_) (fun c0 => ?_)
  ·
    refine G_iconst d_X8_appendOthersOf_12 ic_0 ?_
    refine G_istore_n (L' := [(3, .int (nI 0)), (2, .int (iv μ r0 0)), (0, .ref r0), (1, .int l1)]) d_X8_appendOthersOf_13 rfl (by decide) rfl ?_
    refine G_sub (L' := [(0, .ref r0), (1, .int l1), (2, .int (iv μ r0 0)), (3, .int (nI 0))]) [2, 3, 1, 0] rfl ?_
    exact (h c0)
  ·
    exact G_vret rfl rfl rfl d_X8_appendOthersOf_11 (hK c0)
theorem b_X8_appendOthersOf_14 {X : cX} {d : Nat} {μ : mM} {K : Option Value → mM → Prop} {r0 : Nat} {i1 : Nat} {l2 : Int32} {i3 : Nat} {j0 : Nat} (hw5_r0 : WF5 μ r0) (hb : (3 : Int32) ≤ (nI i3) → i1 < 6) (hi_j0 : (3 : Int32) ≤ (nI i3) → l2 = nI j0) (hb_2 : (3 : Int32) ≤ (nI i3) → j0 < 6) (h : (3 : Int32) ≤ (nI i3) → G X (Rm (d + 1)) mX8_appendOthersOf 62 [(0, .ref r0), (1, .int (nI i1)), (2, .int l2), (3, .int (nI 0))] [] (cpI μ (r0 + 7 + i1) 0 (r0 + 7 + j0) 0 6) 0 0 K) (hb_3 : ¬ (3 : Int32) ≤ (nI i3) → i3 < 3) (hb_4 : ¬ (3 : Int32) ≤ (nI i3) → i1 < 6) (hi_j0_2 : ¬ (3 : Int32) ≤ (nI i3) → l2 = nI j0) (hb_5 : ¬ (3 : Int32) ≤ (nI i3) → j0 < 6) (h_2 : ¬ (3 : Int32) ≤ (nI i3) → G X (Rm (d + 1)) mX8_appendOthersOf 14 [(0, .ref r0), (1, .int (nI i1)), (2, .int l2), (3, .int (nI (i3 + 1)))] [] (wi μ (r0 + 3 + i3) j0 (iv μ (r0 + 3 + i3) i1)) 0 0 K) : G X (Rm (d + 1)) mX8_appendOthersOf 14 [(0, .ref r0), (1, .int (nI i1)), (2, .int l2), (3, .int (nI i3))] [] μ 0 0 K := by
  refine G_iload_n d_X8_appendOthersOf_14 rfl 3 rfl ?_
  refine G_iconst d_X8_appendOthersOf_15 ic_3 ?_
  refine G_icmp_ge (tgt := 41) d_X8_appendOthersOf_16 rfl (fun c0 => ?_) (fun c0 => ?_)
  ·
    refine G_aload_n d_X8_appendOthersOf_41 rfl 0 rfl ?_
    refine G_getR (r := r0 + 6) 5 3 (w5_kd hw5_r0) (w5_f3 hw5_r0) cok5 (by decide) rfl fl_X8_68 d_X8_appendOthersOf_42 ?_
    refine G_iload_n d_X8_appendOthersOf_45 rfl 1 rfl ?_
    refine G_aaldA (r := r0 + 7 + i1) i1 (w5_k3 hw5_r0) rfl (hb c0) (w5_r3 hw5_r0 i1 (hb c0)) d_X8_appendOthersOf_46 ?_
    refine G_iconst d_X8_appendOthersOf_47 ic_0 ?_
    refine G_aload_n d_X8_appendOthersOf_48 rfl 0 rfl ?_
    refine G_getR (r := r0 + 6) 5 3 (w5_kd hw5_r0) (w5_f3 hw5_r0) cok5 (by decide) rfl fl_X8_68 d_X8_appendOthersOf_49 ?_
    refine G_iload_n d_X8_appendOthersOf_52 rfl 2 rfl ?_
    refine G_aaldA (r := r0 + 7 + j0) j0 (w5_k3 hw5_r0) (hi_j0 c0) (hb_2 c0) (w5_r3 hw5_r0 j0 (hb_2 c0)) d_X8_appendOthersOf_53 ?_
    refine G_iconst d_X8_appendOthersOf_54 ic_0 ?_
    refine G_bipush d_X8_appendOthersOf_55 bp_6 ?_
    refine G_copy (sp := 0) (dp := 0) (n := 6) (w5_q3 hw5_r0 i1 (hb c0)) (w5_q3 hw5_r0 j0 (hb_2 c0)) rfl rfl rfl (by decide) (by decide) ml_X8_71 rb_Rm (Nat.le_of_ble_eq_true rfl) d_X8_appendOthersOf_57 ?_
    refine G_iconst d_X8_appendOthersOf_60 ic_0 ?_
    refine G_istore_n (L' := [(3, .int (nI 0)), (0, .ref r0), (1, .int (nI i1)), (2, .int l2)]) d_X8_appendOthersOf_61 rfl (by decide) rfl ?_
    refine G_sub (L' := [(0, .ref r0), (1, .int (nI i1)), (2, .int l2), (3, .int (nI 0))]) [1, 2, 3, 0] rfl ?_
    exact (h c0)
  ·
    refine G_aload_n d_X8_appendOthersOf_19 rfl 0 rfl ?_
    refine G_getR (r := r0 + 2) 5 2 (w5_kd hw5_r0) (w5_f2 hw5_r0) cok5 (by decide) rfl fl_X8_36 d_X8_appendOthersOf_20 ?_
    refine G_iload_n d_X8_appendOthersOf_23 rfl 3 rfl ?_
    refine G_aaldA (r := r0 + 3 + i3) i3 (w5_k2 hw5_r0) rfl (hb_3 c0) (w5_r2 hw5_r0 i3 (hb_3 c0)) d_X8_appendOthersOf_24 ?_
    refine G_iload_n d_X8_appendOthersOf_25 rfl 2 rfl ?_
    refine G_aload_n d_X8_appendOthersOf_26 rfl 0 rfl ?_
    refine G_getR (r := r0 + 2) 5 2 (w5_kd hw5_r0) (w5_f2 hw5_r0) cok5 (by decide) rfl fl_X8_36 d_X8_appendOthersOf_27 ?_
    refine G_iload_n d_X8_appendOthersOf_30 rfl 3 rfl ?_
    refine G_aaldA (r := r0 + 3 + i3) i3 (w5_k2 hw5_r0) rfl (hb_3 c0) (w5_r2 hw5_r0 i3 (hb_3 c0)) d_X8_appendOthersOf_31 ?_
    refine G_iload_n d_X8_appendOthersOf_32 rfl 1 rfl ?_
    refine G_iald i1 (w5_q2 hw5_r0 i3 (hb_3 c0)) rfl (hb_4 c0) d_X8_appendOthersOf_33 ?_
    refine G_iast j0 (w5_q2 hw5_r0 i3 (hb_3 c0)) (hi_j0_2 c0) (hb_5 c0) d_X8_appendOthersOf_34 ?_
    refine G_iinc (L' := [(3, .int (nI (i3 + 1))), (0, .ref r0), (1, .int (nI i1)), (2, .int l2)]) d_X8_appendOthersOf_35 3 rfl (inc1 i3) (by decide) rfl ?_
    refine G_goto (tgt := 14) d_X8_appendOthersOf_38 rfl ?_
    refine G_sub (L' := [(0, .ref r0), (1, .int (nI i1)), (2, .int l2), (3, .int (nI (i3 + 1)))]) [1, 2, 3, 0] rfl ?_
    exact (h_2 c0)
theorem b_X8_appendOthersOf_62 {X : cX} {d : Nat} {μ : mM} {K : Option Value → mM → Prop} {r0 : Nat} {i1 : Nat} {l2 : Int32} {i3 : Nat} {j0 : Nat} (hw5_r0 : WF5 μ r0) (hc_append : l2 < (nI i3) → Ct X (Rm d) mX5_append [.ref r0, .int 1] μ (fun r μ2 => G X (Rm (d + 1)) mX8_appendOthersOf 94 [] (r.toList ++ []) μ2 0 0 K)) (hb : ¬ l2 < (nI i3) → i3 < 6) (hb_2 : ¬ l2 < (nI i3) → i1 < 6) (hi_j0 : ¬ l2 < (nI i3) → l2 = nI j0) (hb_3 : ¬ l2 < (nI i3) → j0 < 6) (h : ¬ l2 < (nI i3) → G X (Rm (d + 1)) mX8_appendOthersOf 62 [(0, .ref r0), (1, .int (nI i1)), (2, .int l2), (3, .int (nI (i3 + 1)))] [] (wi μ (r0 + 7 + i3) j0 (iv μ (r0 + 7 + i3) i1)) 0 0 K) : G X (Rm (d + 1)) mX8_appendOthersOf 62 [(0, .ref r0), (1, .int (nI i1)), (2, .int l2), (3, .int (nI i3))] [] μ 0 0 K := by
  refine G_iload_n d_X8_appendOthersOf_62 rfl 3 rfl ?_
  refine G_iload_n d_X8_appendOthersOf_63 rfl 2 rfl ?_
  refine G_icmp_gt (tgt := 89) d_X8_appendOthersOf_64 rfl (fun c0 => ?_) (fun c0 => ?_)
  ·
    refine G_aload_n d_X8_appendOthersOf_89 rfl 0 rfl ?_
    refine G_iconst d_X8_appendOthersOf_90 ic_1 ?_
    refine G_sub (L' := []) [] rfl ?_
    refine G_callV (M' := mX5_append) (R' := (Rm d)) (S := []) [.int 1] 5 (w5_kd hw5_r0) cok5 rfl ok_X5_append ml_X8_77 pn_X5_append (ru_Rm (by decide)) (Nat.le_of_ble_eq_true rfl) d_X8_appendOthersOf_91 ?_
    exact (hc_append c0)
  ·
    refine G_aload_n d_X8_appendOthersOf_67 rfl 0 rfl ?_
    refine G_getR (r := r0 + 6) 5 3 (w5_kd hw5_r0) (w5_f3 hw5_r0) cok5 (by decide) rfl fl_X8_68 d_X8_appendOthersOf_68 ?_
    refine G_iload_n d_X8_appendOthersOf_71 rfl 3 rfl ?_
    refine G_aaldA (r := r0 + 7 + i3) i3 (w5_k3 hw5_r0) rfl (hb c0) (w5_r3 hw5_r0 i3 (hb c0)) d_X8_appendOthersOf_72 ?_
    refine G_iload_n d_X8_appendOthersOf_73 rfl 2 rfl ?_
    refine G_aload_n d_X8_appendOthersOf_74 rfl 0 rfl ?_
    refine G_getR (r := r0 + 6) 5 3 (w5_kd hw5_r0) (w5_f3 hw5_r0) cok5 (by decide) rfl fl_X8_68 d_X8_appendOthersOf_75 ?_
    refine G_iload_n d_X8_appendOthersOf_78 rfl 3 rfl ?_
    refine G_aaldA (r := r0 + 7 + i3) i3 (w5_k3 hw5_r0) rfl (hb c0) (w5_r3 hw5_r0 i3 (hb c0)) d_X8_appendOthersOf_79 ?_
    refine G_iload_n d_X8_appendOthersOf_80 rfl 1 rfl ?_
    refine G_iald i1 (w5_q3 hw5_r0 i3 (hb c0)) rfl (hb_2 c0) d_X8_appendOthersOf_81 ?_
    refine G_iast j0 (w5_q3 hw5_r0 i3 (hb c0)) (hi_j0 c0) (hb_3 c0) d_X8_appendOthersOf_82 ?_
    refine G_iinc (L' := [(3, .int (nI (i3 + 1))), (0, .ref r0), (1, .int (nI i1)), (2, .int l2)]) d_X8_appendOthersOf_83 3 rfl (inc1 i3) (by decide) rfl ?_
    refine G_goto (tgt := 62) d_X8_appendOthersOf_86 rfl ?_
    refine G_sub (L' := [(0, .ref r0), (1, .int (nI i1)), (2, .int l2), (3, .int (nI (i3 + 1)))]) [1, 2, 3, 0] rfl ?_
    exact (h c0)
theorem b_X8_appendOthersOf_94 {X : cX} {d : Nat} {μ : mM} {K : Option Value → mM → Prop}  (hK : K none μ) : G X (Rm (d + 1)) mX8_appendOthersOf 94 [] [] μ 0 0 K := by
  exact G_vret rfl rfl rfl d_X8_appendOthersOf_94 hK
theorem d_X8_apply_0 : decode cX8_apply 0 = .ok (.aload_n 0, 1) := by decide +kernel
theorem d_X8_apply_1 : decode cX8_apply 1 = .ok (.aload_n 1, 1) := by decide +kernel
theorem d_X8_apply_2 : decode cX8_apply 2 = .ok (.iload_n 2, 1) := by decide +kernel
theorem d_X8_apply_3 : decode cX8_apply 3 = .ok (.iload_n 3, 1) := by decide +kernel
theorem d_X8_apply_4 : decode cX8_apply 4 = .ok (.invokevirtual 9, 3) := by decide +kernel
theorem d_X8_apply_7 : decode cX8_apply 7 = .ok (.iload_n 3, 1) := by decide +kernel
theorem d_X8_apply_8 : decode cX8_apply 8 = .ok (.ifCond .lt 11, 3) := by decide +kernel
theorem d_X8_apply_11 : decode cX8_apply 11 = .ok (.iload_n 3, 1) := by decide +kernel
theorem d_X8_apply_12 : decode cX8_apply 12 = .ok (.aload_n 0, 1) := by decide +kernel
theorem d_X8_apply_13 : decode cX8_apply 13 = .ok (.getfield 15, 3) := by decide +kernel
theorem d_X8_apply_16 : decode cX8_apply 16 = .ok (.if_icmp .lt 5, 3) := by decide +kernel
theorem d_X8_apply_19 : decode cX8_apply 19 = .ok (.iconst (-1), 1) := by decide +kernel
theorem d_X8_apply_20 : decode cX8_apply 20 = .ok (.ireturn, 1) := by decide +kernel
theorem d_X8_apply_21 : decode cX8_apply 21 = .ok (.aload_n 0, 1) := by decide +kernel
theorem d_X8_apply_22 : decode cX8_apply 22 = .ok (.getfield 19, 3) := by decide +kernel
theorem d_X8_apply_25 : decode cX8_apply 25 = .ok (.ifCond .eq 13, 3) := by decide +kernel
theorem d_X8_apply_28 : decode cX8_apply 28 = .ok (.aload_n 1, 1) := by decide +kernel
theorem d_X8_apply_29 : decode cX8_apply 29 = .ok (.invokevirtual 23, 3) := by decide +kernel
theorem d_X8_apply_32 : decode cX8_apply 32 = .ok (.ifCond .eq 6, 3) := by decide +kernel
theorem d_X8_apply_35 : decode cX8_apply 35 = .ok (.bipush (-3), 2) := by decide +kernel
theorem d_X8_apply_37 : decode cX8_apply 37 = .ok (.ireturn, 1) := by decide +kernel
theorem d_X8_apply_38 : decode cX8_apply 38 = .ok (.aload_n 0, 1) := by decide +kernel
theorem d_X8_apply_39 : decode cX8_apply 39 = .ok (.getfield 19, 3) := by decide +kernel
theorem d_X8_apply_42 : decode cX8_apply 42 = .ok (.ifCond .eq 11, 3) := by decide +kernel
theorem d_X8_apply_45 : decode cX8_apply 45 = .ok (.aload_n 1, 1) := by decide +kernel
theorem d_X8_apply_46 : decode cX8_apply 46 = .ok (.aload_n 0, 1) := by decide +kernel
theorem d_X8_apply_47 : decode cX8_apply 47 = .ok (.getfield 29, 3) := by decide +kernel
theorem d_X8_apply_50 : decode cX8_apply 50 = .ok (.invokestatic 32, 3) := by decide +kernel
theorem d_X8_apply_53 : decode cX8_apply 53 = .ok (.aload_n 1, 1) := by decide +kernel
theorem d_X8_apply_54 : decode cX8_apply 54 = .ok (.getfield 36, 3) := by decide +kernel
theorem d_X8_apply_57 : decode cX8_apply 57 = .ok (.iload_n 2, 1) := by decide +kernel
theorem d_X8_apply_58 : decode cX8_apply 58 = .ok (.aaload, 1) := by decide +kernel
theorem d_X8_apply_59 : decode cX8_apply 59 = .ok (.iconst 0, 1) := by decide +kernel
theorem d_X8_apply_60 : decode cX8_apply 60 = .ok (.invokestatic 40, 3) := by decide +kernel
theorem d_X8_apply_63 : decode cX8_apply 63 = .ok (.aload_n 1, 1) := by decide +kernel
theorem d_X8_apply_64 : decode cX8_apply 64 = .ok (.aload_n 0, 1) := by decide +kernel
theorem d_X8_apply_65 : decode cX8_apply 65 = .ok (.getfield 29, 3) := by decide +kernel
theorem d_X8_apply_68 : decode cX8_apply 68 = .ok (.invokevirtual 46, 3) := by decide +kernel
theorem d_X8_apply_71 : decode cX8_apply 71 = .ok (.ifCond .eq 25, 3) := by decide +kernel
theorem d_X8_apply_74 : decode cX8_apply 74 = .ok (.aload_n 1, 1) := by decide +kernel
theorem d_X8_apply_75 : decode cX8_apply 75 = .ok (.getfield 36, 3) := by decide +kernel
theorem d_X8_apply_78 : decode cX8_apply 78 = .ok (.iload_n 2, 1) := by decide +kernel
theorem d_X8_apply_79 : decode cX8_apply 79 = .ok (.aaload, 1) := by decide +kernel
theorem d_X8_apply_80 : decode cX8_apply 80 = .ok (.aload_n 0, 1) := by decide +kernel
theorem d_X8_apply_81 : decode cX8_apply 81 = .ok (.getfield 29, 3) := by decide +kernel
theorem d_X8_apply_84 : decode cX8_apply 84 = .ok (.iconst 2, 1) := by decide +kernel
theorem d_X8_apply_85 : decode cX8_apply 85 = .ok (.iastore, 1) := by decide +kernel
theorem d_X8_apply_86 : decode cX8_apply 86 = .ok (.aload_n 1, 1) := by decide +kernel
theorem d_X8_apply_87 : decode cX8_apply 87 = .ok (.getfield 50, 3) := by decide +kernel
theorem d_X8_apply_90 : decode cX8_apply 90 = .ok (.aload_n 0, 1) := by decide +kernel
theorem d_X8_apply_91 : decode cX8_apply 91 = .ok (.getfield 29, 3) := by decide +kernel
theorem d_X8_apply_94 : decode cX8_apply 94 = .ok (.iconst 0, 1) := by decide +kernel
theorem d_X8_apply_95 : decode cX8_apply 95 = .ok (.bastore, 1) := by decide +kernel
theorem d_X8_apply_96 : decode cX8_apply 96 = .ok (.aload_n 1, 1) := by decide +kernel
theorem d_X8_apply_97 : decode cX8_apply 97 = .ok (.getfield 54, 3) := by decide +kernel
theorem d_X8_apply_100 : decode cX8_apply 100 = .ok (.ireturn, 1) := by decide +kernel
theorem b_X8_apply_0 {X : cX} {d : Nat} {μ : mM} {K : Option Value → mM → Prop} {r0 : Nat} {r1 : Nat} {l2 : Int32} {l3 : Int32} (hw8_r0 : WF8 μ r0) (hc_goThrough : Ct X (Rm (d + 2)) mX8_goThrough [.ref r0, .ref r1, .int l2, .int l3] μ (fun r μ2 => G X (Rm (d + 3)) mX8_apply 7 [(0, .ref r0), (1, .ref r1), (2, .int l2), (3, .int l3)] (r.toList ++ []) μ2 0 0 K)) : G X (Rm (d + 3)) mX8_apply 0 [(0, .ref r0), (1, .ref r1), (2, .int l2), (3, .int l3)] [] μ 0 0 K := by
  refine G_aload_n d_X8_apply_0 rfl 0 rfl ?_
  refine G_aload_n d_X8_apply_1 rfl 1 rfl ?_
  refine G_iload_n d_X8_apply_2 rfl 2 rfl ?_
  refine G_iload_n d_X8_apply_3 rfl 3 rfl ?_
  refine G_callV (M' := mX8_goThrough) (R' := (Rm (d + 2))) (S := []) [.ref r1, .int l2, .int l3] 8 (w8_kd hw8_r0) cok8 rfl ok_X8_goThrough ml_X8_9 pn_X8_goThrough (ru_Rm (by decide)) (Nat.le_of_ble_eq_true rfl) d_X8_apply_4 ?_
  exact hc_goThrough
theorem b_X8_apply_7 {X : cX} {d : Nat} {μ : mM} {K : Option Value → mM → Prop} {r0 : Nat} {r1 : Nat} {l2 : Int32} {l3 : Int32} (hK : l3 < 0 → K (some (.int (-1))) μ) (hw8_r0 : WF8 μ r0) (h : ¬ l3 < 0 → l3 < (iv μ r0 2) → (iv μ r0 1) = 0 → G X (Rm (d + 3)) mX8_apply 38 [(0, .ref r0), (1, .ref r1), (2, .int l2)] [] μ 0 0 K) (hw5_r1 : WF5 μ r1) (h_2 : ¬ l3 < 0 → l3 < (iv μ r0 2) → ¬ (iv μ r0 1) = 0 → (e_X5_isFull μ r1) = 0 → G X (Rm (d + 3)) mX8_apply 38 [(0, .ref r0), (1, .ref r1), (2, .int l2)] [] μ 0 0 K) (hK_2 : ¬ l3 < 0 → l3 < (iv μ r0 2) → ¬ (iv μ r0 1) = 0 → ¬ (e_X5_isFull μ r1) = 0 → K (some (.int (-3))) μ) (hK_3 : ¬ l3 < 0 → ¬ l3 < (iv μ r0 2) → K (some (.int (-1))) μ) : G X (Rm (d + 3)) mX8_apply 7 [(0, .ref r0), (1, .ref r1), (2, .int l2), (3, .int l3)] [] μ 0 0 K := by
  refine G_iload_n d_X8_apply_7 rfl 3 rfl ?_
  refine G_if_lt (tgt := 19) d_X8_apply_8 rfl (fun c0 => ?_) (fun c0 => ?_)
  ·
    refine G_iconst d_X8_apply_19 ic_m1 ?_
    exact G_iret rfl rfl rfl d_X8_apply_20 (hK c0)
  ·
    refine G_iload_n d_X8_apply_11 rfl 3 rfl ?_
    refine G_aload_n d_X8_apply_12 rfl 0 rfl ?_
    refine G_getI 8 2 (w8_kd hw8_r0) cok8 (by decide) rfl fl_X8_15 d_X8_apply_13 ?_
    refine G_icmp_lt (tgt := 21) d_X8_apply_16 rfl (fun c1 => ?_) (fun c1 => ?_)
    ·
      refine G_aload_n d_X8_apply_21 rfl 0 rfl ?_
      refine G_getI 8 1 (w8_kd hw8_r0) cok8 (by decide) rfl fl_X8_19 d_X8_apply_22 ?_
      refine G_if_eq (tgt := 38) d_X8_apply_25 rfl (fun c2 => ?_) (fun c2 => ?_)
      ·
        refine G_sub (L' := [(0, .ref r0), (1, .ref r1), (2, .int l2)]) [0, 1, 2] rfl ?_
        exact (h c0 c1 c2)
      ·
        refine G_aload_n d_X8_apply_28 rfl 1 rfl ?_
        refine G_callV (M' := mX5_isFull) (R' := (Rm (d + 2))) (S := []) [] 5 (w5_kd hw5_r1) cok5 rfl ok_X5_isFull ml_X8_23 pn_X5_isFull (ru_Rm (by decide)) (Nat.le_of_ble_eq_true rfl) d_X8_apply_29 (s_X5_isFull (μ := μ)  hw5_r1 ?_)
        show G X (Rm (d + 3)) mX8_apply 32 [(0, .ref r0), (1, .ref r1), (2, .int l2), (3, .int l3)] [.int (e_X5_isFull μ r1)] μ 0 0 K
        refine G_if_eq (tgt := 38) d_X8_apply_32 rfl (fun c3 => ?_) (fun c3 => ?_)
        ·
          refine G_sub (L' := [(0, .ref r0), (1, .ref r1), (2, .int l2)]) [0, 1, 2] rfl ?_
          exact (h_2 c0 c1 c2 c3)
        ·
          refine G_bipush d_X8_apply_35 bp_m3 ?_
          exact G_iret rfl rfl rfl d_X8_apply_37 (hK_2 c0 c1 c2 c3)
    ·
      refine G_iconst d_X8_apply_19 ic_m1 ?_
      exact G_iret rfl rfl rfl d_X8_apply_20 (hK_3 c0 c1)
theorem b_X8_apply_38 {X : cX} {d : Nat} {μ : mM} {K : Option Value → mM → Prop} {r0 : Nat} {r1 : Nat} {l2 : Int32} (hw8_r0 : WF8 μ r0) (h : (iv μ r0 1) = 0 → G X (Rm (d + 3)) mX8_apply 53 [(0, .ref r0), (1, .ref r1), (2, .int l2)] [] μ 0 0 K) (hc_appendOthersOf : ¬ (iv μ r0 1) = 0 → Ct X (Rm (d + 2)) mX8_appendOthersOf [.ref r1, .int (iv μ r0 0)] μ (fun r μ2 => G X (Rm (d + 3)) mX8_apply 53 [(0, .ref r0), (1, .ref r1), (2, .int l2)] (r.toList ++ []) μ2 0 0 K)) : G X (Rm (d + 3)) mX8_apply 38 [(0, .ref r0), (1, .ref r1), (2, .int l2)] [] μ 0 0 K := by
  refine G_aload_n d_X8_apply_38 rfl 0 rfl ?_
  refine G_getI 8 1 (w8_kd hw8_r0) cok8 (by decide) rfl fl_X8_19 d_X8_apply_39 ?_
  refine G_if_eq (tgt := 53) d_X8_apply_42 rfl (fun c0 => ?_) (fun c0 => ?_)
  ·
    exact (h c0)
  ·
    refine G_aload_n d_X8_apply_45 rfl 1 rfl ?_
    refine G_aload_n d_X8_apply_46 rfl 0 rfl ?_
    refine G_getI 8 0 (w8_kd hw8_r0) cok8 (by decide) rfl fl_X8_29 d_X8_apply_47 ?_
    refine G_callS (M' := mX8_appendOthersOf) (R' := (Rm (d + 2))) (S := []) [.ref r1, .int (iv μ r0 0)] ok_X8_appendOthersOf ml_X8_32 pn_X8_appendOthersOf (ru_Rm (by decide)) (Nat.le_of_ble_eq_true rfl) d_X8_apply_50 ?_
    exact (hc_appendOthersOf c0)
theorem b_X8_apply_53 {X : cX} {d : Nat} {μ : mM} {K : Option Value → mM → Prop} {r0 : Nat} {r1 : Nat} {i2 : Nat} (hw5_r1 : WF5 μ r1) (hb : i2 < 3) (hc_fill : Ct X (Rm (d + 2)) mJ7_fill_53178 [.ref (r1 + 3 + i2), .int 0] μ (fun r μ2 => G X (Rm (d + 3)) mX8_apply 63 [(0, .ref r0), (1, .ref r1), (2, .int (nI i2))] (r.toList ++ []) μ2 0 0 K)) : G X (Rm (d + 3)) mX8_apply 53 [(0, .ref r0), (1, .ref r1), (2, .int (nI i2))] [] μ 0 0 K := by
  refine G_aload_n d_X8_apply_53 rfl 1 rfl ?_
  refine G_getR (r := r1 + 2) 5 2 (w5_kd hw5_r1) (w5_f2 hw5_r1) cok5 (by decide) rfl fl_X8_36 d_X8_apply_54 ?_
  refine G_iload_n d_X8_apply_57 rfl 2 rfl ?_
  refine G_aaldA (r := r1 + 3 + i2) i2 (w5_k2 hw5_r1) rfl hb (w5_r2 hw5_r1 i2 hb) d_X8_apply_58 ?_
  refine G_iconst d_X8_apply_59 ic_0 ?_
  refine G_callS (M' := mJ7_fill_53178) (R' := (Rm (d + 2))) (S := []) [.ref (r1 + 3 + i2), .int 0] ok_J7_fill_53178 ml_X8_40 pn_J7_fill_53178 (ru_Rm (by decide)) (Nat.le_of_ble_eq_true rfl) d_X8_apply_60 ?_
  exact hc_fill
theorem b_X8_apply_63 {X : cX} {d : Nat} {μ : mM} {K : Option Value → mM → Prop} {r0 : Nat} {r1 : Nat} {i2 : Nat} {j0 : Nat} {j1 : Nat} (hw8_r0 : WF8 μ r0) (hw5_r1 : WF5 μ r1) (h : (e_X5_has μ r1 (iv μ r0 0)) = 0 → G X (Rm (d + 3)) mX8_apply 96 [(1, .ref r1)] [] μ 0 0 K) (hb : ¬ (e_X5_has μ r1 (iv μ r0 0)) = 0 → i2 < 3) (hi_j0 : ¬ (e_X5_has μ r1 (iv μ r0 0)) = 0 → iv μ r0 0 = nI j0) (hb_2 : ¬ (e_X5_has μ r1 (iv μ r0 0)) = 0 → j0 < 6) (hi_j1 : ¬ (e_X5_has μ r1 (iv μ r0 0)) = 0 → iv (wi μ (r1 + 3 + i2) j0 2) r0 0 = nI j1) (hb_3 : ¬ (e_X5_has μ r1 (iv μ r0 0)) = 0 → j1 < 6) (h_2 : ¬ (e_X5_has μ r1 (iv μ r0 0)) = 0 → G X (Rm (d + 3)) mX8_apply 96 [(1, .ref r1)] [] (wi (wi μ (r1 + 3 + i2) j0 2) (r1 + 1) j1 0) 0 0 K) : G X (Rm (d + 3)) mX8_apply 63 [(0, .ref r0), (1, .ref r1), (2, .int (nI i2))] [] μ 0 0 K := by
  refine G_aload_n d_X8_apply_63 rfl 1 rfl ?_
  refine G_aload_n d_X8_apply_64 rfl 0 rfl ?_
  refine G_getI 8 0 (w8_kd hw8_r0) cok8 (by decide) rfl fl_X8_29 d_X8_apply_65 ?_
  refine G_callV (M' := mX5_has) (R' := (Rm (d + 2))) (S := []) [.int (iv μ r0 0)] 5 (w5_kd hw5_r1) cok5 rfl ok_X5_has ml_X8_46 pn_X5_has (ru_Rm (by decide)) (Nat.le_of_ble_eq_true rfl) d_X8_apply_68 (s_X5_has (μ := μ)  hw5_r1 ?_)
  show G X (Rm (d + 3)) mX8_apply 71 [(0, .ref r0), (1, .ref r1), (2, .int (nI i2))] [.int (e_X5_has μ r1 (iv μ r0 0))] μ 0 0 K
  refine G_if_eq (tgt := 96) d_X8_apply_71 rfl (fun c0 => ?_) (fun c0 => ?_)
  ·
    refine G_sub (L' := [(1, .ref r1)]) [1] rfl ?_
    exact (h c0)
  ·
    refine G_aload_n d_X8_apply_74 rfl 1 rfl ?_
    refine G_getR (r := r1 + 2) 5 2 (w5_kd hw5_r1) (w5_f2 hw5_r1) cok5 (by decide) rfl fl_X8_36 d_X8_apply_75 ?_
    refine G_iload_n d_X8_apply_78 rfl 2 rfl ?_
    refine G_aaldA (r := r1 + 3 + i2) i2 (w5_k2 hw5_r1) rfl (hb c0) (w5_r2 hw5_r1 i2 (hb c0)) d_X8_apply_79 ?_
    refine G_aload_n d_X8_apply_80 rfl 0 rfl ?_
    refine G_getI 8 0 (w8_kd hw8_r0) cok8 (by decide) rfl fl_X8_29 d_X8_apply_81 ?_
    refine G_iconst d_X8_apply_84 ic_2 ?_
    refine G_iast j0 (w5_q2 hw5_r1 i2 (hb c0)) (hi_j0 c0) (hb_2 c0) d_X8_apply_85 ?_
    refine G_aload_n d_X8_apply_86 rfl 1 rfl ?_
    refine G_getR (r := r1 + 1) 5 1 (w5_kd hw5_r1) (w5_f1 hw5_r1) cok5 (by decide) rfl fl_X8_50 d_X8_apply_87 ?_
    refine G_aload_n d_X8_apply_90 rfl 0 rfl ?_
    refine G_getI 8 0 (w8_kd hw8_r0) cok8 (by decide) rfl fl_X8_29 d_X8_apply_91 ?_
    refine G_iconst d_X8_apply_94 ic_0 ?_
    refine G_zast (v := 0) j1 (w5_k1 hw5_r1) (hi_j1 c0) (hb_3 c0) rfl d_X8_apply_95 ?_
    refine G_sub (L' := [(1, .ref r1)]) [1] rfl ?_
    exact (h_2 c0)
theorem b_X8_apply_96 {X : cX} {d : Nat} {μ : mM} {K : Option Value → mM → Prop} {r1 : Nat} (hw5_r1 : WF5 μ r1) (hK : K (some (.int (iv μ r1 0))) μ) : G X (Rm (d + 3)) mX8_apply 96 [(1, .ref r1)] [] μ 0 0 K := by
  refine G_aload_n d_X8_apply_96 rfl 0 rfl ?_
  refine G_getI 5 0 (w5_kd hw5_r1) cok5 (by decide) rfl fl_X8_54 d_X8_apply_97 ?_
  exact G_iret rfl rfl rfl d_X8_apply_100 hK
theorem d_X9_put_0 : decode cX9_put 0 = .ok (.aload_n 0, 1) := by decide +kernel
theorem d_X9_put_1 : decode cX9_put 1 = .ok (.getfield 15, 3) := by decide +kernel
theorem d_X9_put_4 : decode cX9_put 4 = .ok (.sipush 320, 3) := by decide +kernel
theorem d_X9_put_7 : decode cX9_put 7 = .ok (.if_icmp .lt 5, 3) := by decide +kernel
theorem d_X9_put_10 : decode cX9_put 10 = .ok (.iconst 0, 1) := by decide +kernel
theorem d_X9_put_11 : decode cX9_put 11 = .ok (.ireturn, 1) := by decide +kernel
theorem d_X9_put_12 : decode cX9_put 12 = .ok (.aload_n 0, 1) := by decide +kernel
theorem d_X9_put_13 : decode cX9_put 13 = .ok (.getfield 9, 3) := by decide +kernel
theorem d_X9_put_16 : decode cX9_put 16 = .ok (.aload_n 0, 1) := by decide +kernel
theorem d_X9_put_17 : decode cX9_put 17 = .ok (.getfield 15, 3) := by decide +kernel
theorem d_X9_put_20 : decode cX9_put 20 = .ok (.iload_n 1, 1) := by decide +kernel
theorem d_X9_put_21 : decode cX9_put 21 = .ok (.bastore, 1) := by decide +kernel
theorem d_X9_put_22 : decode cX9_put 22 = .ok (.aload_n 0, 1) := by decide +kernel
theorem d_X9_put_23 : decode cX9_put 23 = .ok (.dup, 1) := by decide +kernel
theorem d_X9_put_24 : decode cX9_put 24 = .ok (.getfield 15, 3) := by decide +kernel
theorem d_X9_put_27 : decode cX9_put 27 = .ok (.iconst 1, 1) := by decide +kernel
theorem d_X9_put_28 : decode cX9_put 28 = .ok (.iadd, 1) := by decide +kernel
theorem d_X9_put_29 : decode cX9_put 29 = .ok (.putfield 15, 3) := by decide +kernel
theorem d_X9_put_32 : decode cX9_put 32 = .ok (.iconst 1, 1) := by decide +kernel
theorem d_X9_put_33 : decode cX9_put 33 = .ok (.ireturn, 1) := by decide +kernel
theorem b_X9_put_0 {X : cX} {d : Nat} {μ : mM} {K : Option Value → mM → Prop} {r0 : Nat} {l1 : Int32} {j0 : Nat} (hw9_r0 : WF9 μ r0) (hi_j0 : (iv μ r0 1) < (320 : Int32) → iv μ r0 1 = nI j0) (hb : (iv μ r0 1) < (320 : Int32) → j0 < 320) (hK : (iv μ r0 1) < (320 : Int32) → K (some (.int 1)) (wi (wi μ (r0 + 1) j0 (vp_nar .byte l1)) r0 1 ((iv (wi μ (r0 + 1) j0 (vp_nar .byte l1)) r0 1) + 1))) (hK_2 : ¬ (iv μ r0 1) < (320 : Int32) → K (some (.int 0)) μ) : G X (Rm d) mX9_put 0 [(0, .ref r0), (1, .int l1)] [] μ 0 0 K := by
  refine G_aload_n d_X9_put_0 rfl 0 rfl ?_
  refine G_getI 9 1 (w9_kd hw9_r0) cok9 (by decide) rfl fl_X9_15 d_X9_put_1 ?_
  refine G_sipush d_X9_put_4 sp_320 ?_
  refine G_icmp_lt (tgt := 12) d_X9_put_7 rfl (fun c0 => ?_) (fun c0 => ?_)
  ·
    refine G_aload_n d_X9_put_12 rfl 0 rfl ?_
    refine G_getR (r := r0 + 1) 9 0 (w9_kd hw9_r0) (w9_f0 hw9_r0) cok9 (by decide) rfl fl_X9_9 d_X9_put_13 ?_
    refine G_aload_n d_X9_put_16 rfl 0 rfl ?_
    refine G_getI 9 1 (w9_kd hw9_r0) cok9 (by decide) rfl fl_X9_15 d_X9_put_17 ?_
    refine G_iload_n d_X9_put_20 rfl 1 rfl ?_
    refine G_bast j0 (w9_k0 hw9_r0) (hi_j0 c0) (hb c0) rfl d_X9_put_21 ?_
    refine G_aload_n d_X9_put_22 rfl 0 rfl ?_
    refine G_dup d_X9_put_23 rfl ?_
    refine G_getI 9 1 (w9_kd hw9_r0) cok9 (by decide) rfl fl_X9_15 d_X9_put_24 ?_
    refine G_iconst d_X9_put_27 ic_1 ?_
    refine G_iadd d_X9_put_28 ?_
    refine G_putI 9 1 (w9_kd hw9_r0) rfl rfl cok9 (by decide) rfl (Or.inl rfl) fl_X9_15 d_X9_put_29 ?_
    refine G_iconst d_X9_put_32 ic_1 ?_
    exact G_zret rfl rfl rfl rfl d_X9_put_33 (hK c0)
  ·
    refine G_iconst d_X9_put_10 ic_0 ?_
    exact G_zret rfl rfl rfl rfl d_X9_put_11 (hK_2 c0)
theorem d_X10_itemsOfAll_0 : decode cX10_itemsOfAll 0 = .ok (.iconst 0, 1) := by decide +kernel
theorem d_X10_itemsOfAll_1 : decode cX10_itemsOfAll 1 = .ok (.istore_n 1, 1) := by decide +kernel
theorem d_X10_itemsOfAll_2 : decode cX10_itemsOfAll 2 = .ok (.iconst 0, 1) := by decide +kernel
theorem d_X10_itemsOfAll_3 : decode cX10_itemsOfAll 3 = .ok (.istore_n 2, 1) := by decide +kernel
theorem d_X10_itemsOfAll_4 : decode cX10_itemsOfAll 4 = .ok (.iload_n 2, 1) := by decide +kernel
theorem d_X10_itemsOfAll_5 : decode cX10_itemsOfAll 5 = .ok (.aload_n 0, 1) := by decide +kernel
theorem d_X10_itemsOfAll_6 : decode cX10_itemsOfAll 6 = .ok (.getfield 28, 3) := by decide +kernel
theorem d_X10_itemsOfAll_9 : decode cX10_itemsOfAll 9 = .ok (.if_icmp .ge 21, 3) := by decide +kernel
theorem d_X10_itemsOfAll_12 : decode cX10_itemsOfAll 12 = .ok (.iload_n 1, 1) := by decide +kernel
theorem d_X10_itemsOfAll_13 : decode cX10_itemsOfAll 13 = .ok (.aload_n 0, 1) := by decide +kernel
theorem d_X10_itemsOfAll_14 : decode cX10_itemsOfAll 14 = .ok (.getfield 20, 3) := by decide +kernel
theorem d_X10_itemsOfAll_17 : decode cX10_itemsOfAll 17 = .ok (.iload_n 2, 1) := by decide +kernel
theorem d_X10_itemsOfAll_18 : decode cX10_itemsOfAll 18 = .ok (.aaload, 1) := by decide +kernel
theorem d_X10_itemsOfAll_19 : decode cX10_itemsOfAll 19 = .ok (.getfield 32, 3) := by decide +kernel
theorem d_X10_itemsOfAll_22 : decode cX10_itemsOfAll 22 = .ok (.iadd, 1) := by decide +kernel
theorem d_X10_itemsOfAll_23 : decode cX10_itemsOfAll 23 = .ok (.istore_n 1, 1) := by decide +kernel
theorem d_X10_itemsOfAll_24 : decode cX10_itemsOfAll 24 = .ok (.iinc 2 1, 3) := by decide +kernel
theorem d_X10_itemsOfAll_27 : decode cX10_itemsOfAll 27 = .ok (.goto (-23), 3) := by decide +kernel
theorem d_X10_itemsOfAll_30 : decode cX10_itemsOfAll 30 = .ok (.iload_n 1, 1) := by decide +kernel
theorem d_X10_itemsOfAll_31 : decode cX10_itemsOfAll 31 = .ok (.ireturn, 1) := by decide +kernel
theorem b_X10_itemsOfAll_0 {X : cX} {d : Nat} {μ : mM} {K : Option Value → mM → Prop} {r0 : Nat} (h : G X (Rm d) mX10_itemsOfAll 4 [(0, .ref r0), (1, .int 0), (2, .int (nI 0))] [] μ 0 0 K) : G X (Rm d) mX10_itemsOfAll 0 [(0, .ref r0)] [] μ 0 0 K := by
  refine G_iconst d_X10_itemsOfAll_0 ic_0 ?_
  refine G_istore_n (L' := [(1, .int 0), (0, .ref r0)]) d_X10_itemsOfAll_1 rfl (by decide) rfl ?_
  refine G_iconst d_X10_itemsOfAll_2 ic_0 ?_
  refine G_istore_n (L' := [(2, .int (nI 0)), (1, .int 0), (0, .ref r0)]) d_X10_itemsOfAll_3 rfl (by decide) rfl ?_
  refine G_sub (L' := [(0, .ref r0), (1, .int 0), (2, .int (nI 0))]) [2, 1, 0] rfl ?_
  exact h
theorem b_X10_itemsOfAll_4 {X : cX} {d : Nat} {μ : mM} {K : Option Value → mM → Prop} {r0 : Nat} {l1 : Int32} {i2 : Nat} (hw10_r0 : WF10 μ r0) (hK : (iv μ r0 2) ≤ (nI i2) → K (some (.int l1)) μ) (hb : ¬ (iv μ r0 2) ≤ (nI i2) → i2 < 4) (hw3_r0268i2 : WF3 μ (r0 + 26 + 8 * i2)) (h : ¬ (iv μ r0 2) ≤ (nI i2) → G X (Rm d) mX10_itemsOfAll 4 [(0, .ref r0), (1, .int (l1 + (iv μ (r0 + 26 + 8 * i2) 3))), (2, .int (nI (i2 + 1)))] [] μ 0 0 K) : G X (Rm d) mX10_itemsOfAll 4 [(0, .ref r0), (1, .int l1), (2, .int (nI i2))] [] μ 0 0 K := by
  refine G_iload_n d_X10_itemsOfAll_4 rfl 2 rfl ?_
  refine G_aload_n d_X10_itemsOfAll_5 rfl 0 rfl ?_
  refine G_getI 10 2 (w10_kd hw10_r0) cok10 (by decide) rfl fl_X10_28 d_X10_itemsOfAll_6 ?_
  refine G_icmp_ge (tgt := 30) d_X10_itemsOfAll_9 rfl (fun c0 => ?_) (fun c0 => ?_)
  ·
    refine G_iload_n d_X10_itemsOfAll_30 rfl 1 rfl ?_
    exact G_iret rfl rfl rfl d_X10_itemsOfAll_31 (hK c0)
  ·
    refine G_iload_n d_X10_itemsOfAll_12 rfl 1 rfl ?_
    refine G_aload_n d_X10_itemsOfAll_13 rfl 0 rfl ?_
    refine G_getR (r := r0 + 25) 10 1 (w10_kd hw10_r0) (w10_f1 hw10_r0) cok10 (by decide) rfl fl_X10_20 d_X10_itemsOfAll_14 ?_
    refine G_iload_n d_X10_itemsOfAll_17 rfl 2 rfl ?_
    refine G_aaldF (r := r0 + 26 + 8 * i2) i2 (w10_k1 hw10_r0) rfl (hb c0) (w10_r1 hw10_r0 i2 (hb c0)) d_X10_itemsOfAll_18 ?_
    refine G_getI 3 3 (w3_kd hw3_r0268i2) cok3 (by decide) rfl fl_X10_32 d_X10_itemsOfAll_19 ?_
    refine G_iadd d_X10_itemsOfAll_22 ?_
    refine G_istore_n (L' := [(1, .int (l1 + (iv μ (r0 + 26 + 8 * i2) 3))), (0, .ref r0), (2, .int (nI i2))]) d_X10_itemsOfAll_23 rfl (by decide) rfl ?_
    refine G_iinc (L' := [(2, .int (nI (i2 + 1))), (1, .int (l1 + (iv μ (r0 + 26 + 8 * i2) 3))), (0, .ref r0)]) d_X10_itemsOfAll_24 2 rfl (inc1 i2) (by decide) rfl ?_
    refine G_goto (tgt := 4) d_X10_itemsOfAll_27 rfl ?_
    refine G_sub (L' := [(0, .ref r0), (1, .int (l1 + (iv μ (r0 + 26 + 8 * i2) 3))), (2, .int (nI (i2 + 1)))]) [2, 1, 0] rfl ?_
    exact (h c0)
theorem d_X11_feed_0 : decode cX11_feed 0 = .ok (.iload_n 1, 1) := by decide +kernel
theorem d_X11_feed_1 : decode cX11_feed 1 = .ok (.ifCond .lt 9, 3) := by decide +kernel
theorem d_X11_feed_4 : decode cX11_feed 4 = .ok (.iload_n 1, 1) := by decide +kernel
theorem d_X11_feed_5 : decode cX11_feed 5 = .ok (.bipush 127, 2) := by decide +kernel
theorem d_X11_feed_7 : decode cX11_feed 7 = .ok (.if_icmp .le 5, 3) := by decide +kernel
theorem d_X11_feed_10 : decode cX11_feed 10 = .ok (.iconst (-1), 1) := by decide +kernel
theorem d_X11_feed_11 : decode cX11_feed 11 = .ok (.ireturn, 1) := by decide +kernel
theorem d_X11_feed_12 : decode cX11_feed 12 = .ok (.aload_n 0, 1) := by decide +kernel
theorem d_X11_feed_13 : decode cX11_feed 13 = .ok (.getfield 10, 3) := by decide +kernel
theorem d_X11_feed_16 : decode cX11_feed 16 = .ok (.iload_n 1, 1) := by decide +kernel
theorem d_X11_feed_17 : decode cX11_feed 17 = .ok (.i2b, 1) := by decide +kernel
theorem d_X11_feed_18 : decode cX11_feed 18 = .ok (.invokevirtual 87, 3) := by decide +kernel
theorem d_X11_feed_21 : decode cX11_feed 21 = .ok (.ifCond .eq 13, 3) := by decide +kernel
theorem d_X11_feed_24 : decode cX11_feed 24 = .ok (.aload_n 0, 1) := by decide +kernel
theorem d_X11_feed_25 : decode cX11_feed 25 = .ok (.getfield 10, 3) := by decide +kernel
theorem d_X11_feed_28 : decode cX11_feed 28 = .ok (.getfield 91, 3) := by decide +kernel
theorem d_X11_feed_31 : decode cX11_feed 31 = .ok (.goto 5, 3) := by decide +kernel
theorem d_X11_feed_34 : decode cX11_feed 34 = .ok (.bipush (-3), 2) := by decide +kernel
theorem d_X11_feed_36 : decode cX11_feed 36 = .ok (.ireturn, 1) := by decide +kernel
theorem b_X11_feed_0 {X : cX} {d : Nat} {μ : mM} {K : Option Value → mM → Prop} {r0 : Nat} {l1 : Int32} (hK : l1 < 0 → K (some (.int (-1))) μ) (hw11_r0 : WF11 μ r0) (hw9_r01 : WF9 μ (r0 + 1)) (hc_put : ¬ l1 < 0 → l1 ≤ (127 : Int32) → Ct X (Rm d) mX9_put [.ref (r0 + 1), .int l1.toInt8.toInt32] μ (fun r μ2 => G X (Rm (d + 1)) mX11_feed 21 [(0, .ref r0)] (r.toList ++ []) μ2 0 0 K)) (hK_2 : ¬ l1 < 0 → ¬ l1 ≤ (127 : Int32) → K (some (.int (-1))) μ) : G X (Rm (d + 1)) mX11_feed 0 [(0, .ref r0), (1, .int l1)] [] μ 0 0 K := by
  refine G_iload_n d_X11_feed_0 rfl 1 rfl ?_
  refine G_if_lt (tgt := 10) d_X11_feed_1 rfl (fun c0 => ?_) (fun c0 => ?_)
  ·
    refine G_iconst d_X11_feed_10 ic_m1 ?_
    exact G_iret rfl rfl rfl d_X11_feed_11 (hK c0)
  ·
    refine G_iload_n d_X11_feed_4 rfl 1 rfl ?_
    refine G_bipush d_X11_feed_5 bp_127 ?_
    refine G_icmp_le (tgt := 12) d_X11_feed_7 rfl (fun c1 => ?_) (fun c1 => ?_)
    ·
      refine G_aload_n d_X11_feed_12 rfl 0 rfl ?_
      refine G_getR (r := r0 + 1) 11 0 (w11_kd hw11_r0) (w11_f0 hw11_r0) cok11 (by decide) rfl fl_X11_10 d_X11_feed_13 ?_
      refine G_iload_n d_X11_feed_16 rfl 1 rfl ?_
      refine G_i2b (v := l1.toInt8.toInt32) d_X11_feed_17 rfl ?_
      refine G_sub (L' := [(0, .ref r0)]) [0] rfl ?_
      refine G_callV (M' := mX9_put) (R' := (Rm d)) (S := []) [.int l1.toInt8.toInt32] 9 (w9_kd hw9_r01) cok9 rfl ok_X9_put ml_X11_87 pn_X9_put (ru_Rm (by decide)) (Nat.le_of_ble_eq_true rfl) d_X11_feed_18 ?_
      exact (hc_put c0 c1)
    ·
      refine G_iconst d_X11_feed_10 ic_m1 ?_
      exact G_iret rfl rfl rfl d_X11_feed_11 (hK_2 c0 c1)
theorem b_X11_feed_21 {X : cX} {d : Nat} {μ : mM} {K : Option Value → mM → Prop} {r0 : Nat} {v0 : Int32} (hK : v0 = 0 → K (some (.int (-3))) μ) (hw11_r0 : WF11 μ r0) (hw9_r01 : WF9 μ (r0 + 1)) (hK_2 : ¬ v0 = 0 → K (some (.int (iv μ (r0 + 1) 1))) μ) : G X (Rm (d + 1)) mX11_feed 21 [(0, .ref r0)] [.int v0] μ 0 0 K := by
  refine G_if_eq (tgt := 34) d_X11_feed_21 rfl (fun c0 => ?_) (fun c0 => ?_)
  ·
    refine G_bipush d_X11_feed_34 bp_m3 ?_
    exact G_iret rfl rfl rfl d_X11_feed_36 (hK c0)
  ·
    refine G_aload_n d_X11_feed_24 rfl 0 rfl ?_
    refine G_getR (r := r0 + 1) 11 0 (w11_kd hw11_r0) (w11_f0 hw11_r0) cok11 (by decide) rfl fl_X11_10 d_X11_feed_25 ?_
    refine G_getI 9 1 (w9_kd hw9_r01) cok9 (by decide) rfl fl_X11_91 d_X11_feed_28 ?_
    refine G_goto (tgt := 36) d_X11_feed_31 rfl ?_
    exact G_iret rfl rfl rfl d_X11_feed_36 (hK_2 c0)
theorem d_X11_end_0 : decode cX11_end 0 = .ok (.iload_n 1, 1) := by decide +kernel
theorem d_X11_end_1 : decode cX11_end 1 = .ok (.ifCond .lt 14, 3) := by decide +kernel
theorem d_X11_end_4 : decode cX11_end 4 = .ok (.iload_n 1, 1) := by decide +kernel
theorem d_X11_end_5 : decode cX11_end 5 = .ok (.aload_n 0, 1) := by decide +kernel
theorem d_X11_end_6 : decode cX11_end 6 = .ok (.getfield 10, 3) := by decide +kernel
theorem d_X11_end_9 : decode cX11_end 9 = .ok (.getfield 91, 3) := by decide +kernel
theorem d_X11_end_12 : decode cX11_end 12 = .ok (.if_icmp .le 5, 3) := by decide +kernel
theorem d_X11_end_15 : decode cX11_end 15 = .ok (.iconst (-1), 1) := by decide +kernel
theorem d_X11_end_16 : decode cX11_end 16 = .ok (.ireturn, 1) := by decide +kernel
theorem d_X11_end_17 : decode cX11_end 17 = .ok (.aload_n 0, 1) := by decide +kernel
theorem d_X11_end_18 : decode cX11_end 18 = .ok (.getfield 10, 3) := by decide +kernel
theorem d_X11_end_21 : decode cX11_end 21 = .ok (.getfield 91, 3) := by decide +kernel
theorem d_X11_end_24 : decode cX11_end 24 = .ok (.istore_n 2, 1) := by decide +kernel
theorem d_X11_end_25 : decode cX11_end 25 = .ok (.aload_n 0, 1) := by decide +kernel
theorem d_X11_end_26 : decode cX11_end 26 = .ok (.getfield 10, 3) := by decide +kernel
theorem d_X11_end_29 : decode cX11_end 29 = .ok (.iload_n 1, 1) := by decide +kernel
theorem d_X11_end_30 : decode cX11_end 30 = .ok (.putfield 91, 3) := by decide +kernel
theorem d_X11_end_33 : decode cX11_end 33 = .ok (.iload_n 2, 1) := by decide +kernel
theorem d_X11_end_34 : decode cX11_end 34 = .ok (.ireturn, 1) := by decide +kernel
theorem b_X11_end_0 {X : cX} {d : Nat} {μ : mM} {K : Option Value → mM → Prop} {r0 : Nat} {l1 : Int32} (hK : l1 < 0 → K (some (.int (-1))) μ) (hw11_r0 : WF11 μ r0) (hw9_r01 : WF9 μ (r0 + 1)) (hK_2 : ¬ l1 < 0 → l1 ≤ (iv μ (r0 + 1) 1) → K (some (.int (iv μ (r0 + 1) 1))) (wi μ (r0 + 1) 1 l1)) (hK_3 : ¬ l1 < 0 → ¬ l1 ≤ (iv μ (r0 + 1) 1) → K (some (.int (-1))) μ) : G X (Rm d) mX11_end 0 [(0, .ref r0), (1, .int l1)] [] μ 0 0 K := by
  refine G_iload_n d_X11_end_0 rfl 1 rfl ?_
  refine G_if_lt (tgt := 15) d_X11_end_1 rfl (fun c0 => ?_) (fun c0 => ?_)
  ·
    refine G_iconst d_X11_end_15 ic_m1 ?_
    exact G_iret rfl rfl rfl d_X11_end_16 (hK c0)
  ·
    refine G_iload_n d_X11_end_4 rfl 1 rfl ?_
    refine G_aload_n d_X11_end_5 rfl 0 rfl ?_
    refine G_getR (r := r0 + 1) 11 0 (w11_kd hw11_r0) (w11_f0 hw11_r0) cok11 (by decide) rfl fl_X11_10 d_X11_end_6 ?_
    refine G_getI 9 1 (w9_kd hw9_r01) cok9 (by decide) rfl fl_X11_91 d_X11_end_9 ?_
    refine G_icmp_le (tgt := 17) d_X11_end_12 rfl (fun c1 => ?_) (fun c1 => ?_)
    ·
      refine G_aload_n d_X11_end_17 rfl 0 rfl ?_
      refine G_getR (r := r0 + 1) 11 0 (w11_kd hw11_r0) (w11_f0 hw11_r0) cok11 (by decide) rfl fl_X11_10 d_X11_end_18 ?_
      refine G_getI 9 1 (w9_kd hw9_r01) cok9 (by decide) rfl fl_X11_91 d_X11_end_21 ?_
      refine G_istore_n (L' := [(2, .int (iv μ (r0 + 1) 1)), (0, .ref r0), (1, .int l1)]) d_X11_end_24 rfl (by decide) rfl ?_
      refine G_aload_n d_X11_end_25 rfl 1 rfl ?_
      refine G_getR (r := r0 + 1) 11 0 (w11_kd hw11_r0) (w11_f0 hw11_r0) cok11 (by decide) rfl fl_X11_10 d_X11_end_26 ?_
      refine G_iload_n d_X11_end_29 rfl 2 rfl ?_
      refine G_putI 9 1 (w9_kd hw9_r01) rfl rfl cok9 (by decide) rfl (Or.inl rfl) fl_X11_91 d_X11_end_30 ?_
      refine G_iload_n d_X11_end_33 rfl 0 rfl ?_
      exact G_iret rfl rfl rfl d_X11_end_34 (hK_2 c0 c1)
    ·
      refine G_iconst d_X11_end_15 ic_m1 ?_
      exact G_iret rfl rfl rfl d_X11_end_16 (hK_3 c0 c1)
theorem d_X11_text_0 : decode cX11_text 0 = .ok (.aload_n 0, 1) := by decide +kernel
theorem d_X11_text_1 : decode cX11_text 1 = .ok (.getfield 19, 3) := by decide +kernel
theorem d_X11_text_4 : decode cX11_text 4 = .ok (.aload_n 0, 1) := by decide +kernel
theorem d_X11_text_5 : decode cX11_text 5 = .ok (.getfield 10, 3) := by decide +kernel
theorem d_X11_text_8 : decode cX11_text 8 = .ok (.invokevirtual 95, 3) := by decide +kernel
theorem d_X11_text_11 : decode cX11_text 11 = .ok (.istore_n 1, 1) := by decide +kernel
theorem d_X11_text_12 : decode cX11_text 12 = .ok (.aload_n 0, 1) := by decide +kernel
theorem d_X11_text_13 : decode cX11_text 13 = .ok (.getfield 10, 3) := by decide +kernel
theorem d_X11_text_16 : decode cX11_text 16 = .ok (.iconst 0, 1) := by decide +kernel
theorem d_X11_text_17 : decode cX11_text 17 = .ok (.putfield 91, 3) := by decide +kernel
theorem d_X11_text_20 : decode cX11_text 20 = .ok (.aload_n 0, 1) := by decide +kernel
theorem d_X11_text_21 : decode cX11_text 21 = .ok (.aload_n 0, 1) := by decide +kernel
theorem d_X11_text_22 : decode cX11_text 22 = .ok (.getfield 19, 3) := by decide +kernel
theorem d_X11_text_25 : decode cX11_text 25 = .ok (.getfield 99, 3) := by decide +kernel
theorem d_X11_text_28 : decode cX11_text 28 = .ok (.putfield 102, 3) := by decide +kernel
theorem d_X11_text_31 : decode cX11_text 31 = .ok (.iload_n 1, 1) := by decide +kernel
theorem d_X11_text_32 : decode cX11_text 32 = .ok (.ifCond .ne 14, 3) := by decide +kernel
theorem d_X11_text_35 : decode cX11_text 35 = .ok (.bipush (-10), 2) := by decide +kernel
theorem d_X11_text_37 : decode cX11_text 37 = .ok (.aload_n 0, 1) := by decide +kernel
theorem d_X11_text_38 : decode cX11_text 38 = .ok (.getfield 19, 3) := by decide +kernel
theorem d_X11_text_41 : decode cX11_text 41 = .ok (.getfield 105, 3) := by decide +kernel
theorem d_X11_text_44 : decode cX11_text 44 = .ok (.isub, 1) := by decide +kernel
theorem d_X11_text_45 : decode cX11_text 45 = .ok (.ireturn, 1) := by decide +kernel
theorem d_X11_text_46 : decode cX11_text 46 = .ok (.aload_n 0, 1) := by decide +kernel
theorem d_X11_text_47 : decode cX11_text 47 = .ok (.getfield 26, 3) := by decide +kernel
theorem d_X11_text_50 : decode cX11_text 50 = .ok (.astore_n 2, 1) := by decide +kernel
theorem d_X11_text_51 : decode cX11_text 51 = .ok (.aload_n 0, 1) := by decide +kernel
theorem d_X11_text_52 : decode cX11_text 52 = .ok (.aload_n 0, 1) := by decide +kernel
theorem d_X11_text_53 : decode cX11_text 53 = .ok (.getfield 19, 3) := by decide +kernel
theorem d_X11_text_56 : decode cX11_text 56 = .ok (.getfield 108, 3) := by decide +kernel
theorem d_X11_text_59 : decode cX11_text 59 = .ok (.putfield 26, 3) := by decide +kernel
theorem d_X11_text_62 : decode cX11_text 62 = .ok (.aload_n 0, 1) := by decide +kernel
theorem d_X11_text_63 : decode cX11_text 63 = .ok (.getfield 19, 3) := by decide +kernel
theorem d_X11_text_66 : decode cX11_text 66 = .ok (.aload_n 2, 1) := by decide +kernel
theorem d_X11_text_67 : decode cX11_text 67 = .ok (.putfield 108, 3) := by decide +kernel
theorem d_X11_text_70 : decode cX11_text 70 = .ok (.iconst 0, 1) := by decide +kernel
theorem d_X11_text_71 : decode cX11_text 71 = .ok (.istore_n 3, 1) := by decide +kernel
theorem d_X11_text_72 : decode cX11_text 72 = .ok (.iload_n 3, 1) := by decide +kernel
theorem d_X11_text_73 : decode cX11_text 73 = .ok (.iconst 2, 1) := by decide +kernel
theorem d_X11_text_74 : decode cX11_text 74 = .ok (.if_icmp .ge 16, 3) := by decide +kernel
theorem d_X11_text_77 : decode cX11_text 77 = .ok (.aload_n 0, 1) := by decide +kernel
theorem d_X11_text_78 : decode cX11_text 78 = .ok (.getfield 36, 3) := by decide +kernel
theorem d_X11_text_81 : decode cX11_text 81 = .ok (.iload_n 3, 1) := by decide +kernel
theorem d_X11_text_82 : decode cX11_text 82 = .ok (.iconst 0, 1) := by decide +kernel
theorem d_X11_text_83 : decode cX11_text 83 = .ok (.bastore, 1) := by decide +kernel
theorem d_X11_text_84 : decode cX11_text 84 = .ok (.iinc 3 1, 3) := by decide +kernel
theorem d_X11_text_87 : decode cX11_text 87 = .ok (.goto (-15), 3) := by decide +kernel
theorem d_X11_text_90 : decode cX11_text 90 = .ok (.aload_n 0, 1) := by decide +kernel
theorem d_X11_text_91 : decode cX11_text 91 = .ok (.getfield 19, 3) := by decide +kernel
theorem d_X11_text_94 : decode cX11_text 94 = .ok (.getfield 111, 3) := by decide +kernel
theorem d_X11_text_97 : decode cX11_text 97 = .ok (.ireturn, 1) := by decide +kernel
theorem b_X11_text_0 {X : cX} {d : Nat} {μ : mM} {K : Option Value → mM → Prop} {r0 : Nat} (hw11_r0 : WF11 μ r0) (hw4_r03 : WF4 μ (r0 + 3)) (hc_takes : Ct X (Rm (d + 9)) mX4_takes [.ref (r0 + 3), .ref (r0 + 1)] μ (fun r μ2 => G X (Rm (d + 10)) mX11_text 11 [(0, .ref r0)] (r.toList ++ []) μ2 0 0 K)) : G X (Rm (d + 10)) mX11_text 0 [(0, .ref r0)] [] μ 0 0 K := by
  refine G_aload_n d_X11_text_0 rfl 0 rfl ?_
  refine G_getR (r := r0 + 3) 11 1 (w11_kd hw11_r0) (w11_f1 hw11_r0) cok11 (by decide) rfl fl_X11_19 d_X11_text_1 ?_
  refine G_aload_n d_X11_text_4 rfl 0 rfl ?_
  refine G_getR (r := r0 + 1) 11 0 (w11_kd hw11_r0) (w11_f0 hw11_r0) cok11 (by decide) rfl fl_X11_10 d_X11_text_5 ?_
  refine G_callV (M' := mX4_takes) (R' := (Rm (d + 9))) (S := []) [.ref (r0 + 1)] 4 (w4_kd hw4_r03) cok4 rfl ok_X4_takes ml_X11_95 pn_X4_takes (ru_Rm (by decide)) (Nat.le_of_ble_eq_true rfl) d_X11_text_8 ?_
  exact hc_takes
theorem b_X11_text_11 {X : cX} {d : Nat} {μ : mM} {K : Option Value → mM → Prop} {r0 : Nat} {v0 : Int32} {p0 : Nat} {p1 : Nat} (hw11_r0 : WF11 μ r0) (hw9_r01 : WF9 μ (r0 + 1)) (hw4_r03 : WF4 μ (r0 + 3)) (hr_p0 : rv μ r0 2 = some p0) (hr_p1 : rv μ (r0 + 3) 0 = some p1) (h : ¬ v0 = 0 → G X (Rm (d + 10)) mX11_text 62 [(0, .ref r0), (2, .ref p0)] [] (wr (wi (wi μ (r0 + 1) 1 0) r0 3 (iv (wi μ (r0 + 1) 1 0) (r0 + 3) 2)) r0 2 (some p1)) 0 0 K) (hK : v0 = 0 → K (some (.int (((-10) : Int32) - (iv (wi (wi μ (r0 + 1) 1 0) r0 3 (iv (wi μ (r0 + 1) 1 0) (r0 + 3) 2)) (r0 + 3) 3)))) (wi (wi μ (r0 + 1) 1 0) r0 3 (iv (wi μ (r0 + 1) 1 0) (r0 + 3) 2))) : G X (Rm (d + 10)) mX11_text 11 [(0, .ref r0)] [.int v0] μ 0 0 K := by
  refine G_istore_n (L' := [(1, .int v0), (0, .ref r0)]) d_X11_text_11 rfl (by decide) rfl ?_
  refine G_aload_n d_X11_text_12 rfl 1 rfl ?_
  refine G_getR (r := r0 + 1) 11 0 (w11_kd hw11_r0) (w11_f0 hw11_r0) cok11 (by decide) rfl fl_X11_10 d_X11_text_13 ?_
  refine G_iconst d_X11_text_16 ic_0 ?_
  refine G_putI 9 1 (w9_kd hw9_r01) rfl rfl cok9 (by decide) rfl (Or.inl rfl) fl_X11_91 d_X11_text_17 ?_
  refine G_aload_n d_X11_text_20 rfl 1 rfl ?_
  refine G_aload_n d_X11_text_21 rfl 1 rfl ?_
  refine G_getR (r := r0 + 3) 11 1 (w11_kd hw11_r0) (w11_f1 hw11_r0) cok11 (by decide) rfl fl_X11_19 d_X11_text_22 ?_
  refine G_getI 4 2 (w4_kd hw4_r03) cok4 (by decide) rfl fl_X11_99 d_X11_text_25 ?_
  refine G_putI 11 3 (w11_kd hw11_r0) rfl rfl cok11 (by decide) rfl (Or.inl rfl) fl_X11_102 d_X11_text_28 ?_
  refine G_iload_n d_X11_text_31 rfl 0 rfl ?_
  refine G_if_ne (tgt := 46) d_X11_text_32 rfl (fun c0 => ?_) (fun c0 => ?_)
  ·
    refine G_aload_n d_X11_text_46 rfl 1 rfl ?_
    refine G_getR (r := p0) 11 2 (w11_kd hw11_r0) hr_p0 cok11 (by decide) rfl fl_X11_26 d_X11_text_47 ?_
    refine G_astore_n (L' := [(2, .ref p0), (1, .int v0), (0, .ref r0)]) d_X11_text_50 rfl (by decide) rfl ?_
    refine G_aload_n d_X11_text_51 rfl 2 rfl ?_
    refine G_aload_n d_X11_text_52 rfl 2 rfl ?_
    refine G_getR (r := r0 + 3) 11 1 (w11_kd hw11_r0) (w11_f1 hw11_r0) cok11 (by decide) rfl fl_X11_19 d_X11_text_53 ?_
    refine G_getR (r := p1) 4 0 (w4_kd hw4_r03) hr_p1 cok4 (by decide) rfl fl_X11_108 d_X11_text_56 ?_
    refine G_putR 11 2 (w11_kd hw11_r0) cok11 (by decide) rfl (Or.inl rfl) fl_X11_26 d_X11_text_59 ?_
    refine G_sub (L' := [(0, .ref r0), (2, .ref p0)]) [2, 0] rfl ?_
    exact (h c0)
  ·
    refine G_bipush d_X11_text_35 bp_m10 ?_
    refine G_aload_n d_X11_text_37 rfl 1 rfl ?_
    refine G_getR (r := r0 + 3) 11 1 (w11_kd hw11_r0) (w11_f1 hw11_r0) cok11 (by decide) rfl fl_X11_19 d_X11_text_38 ?_
    refine G_getI 4 3 (w4_kd hw4_r03) cok4 (by decide) rfl fl_X11_105 d_X11_text_41 ?_
    refine G_isub d_X11_text_44 ?_
    exact G_iret rfl rfl rfl d_X11_text_45 (hK c0)
theorem b_X11_text_62 {X : cX} {d : Nat} {μ : mM} {K : Option Value → mM → Prop} {r0 : Nat} {r2 : Nat} (hw11_r0 : WF11 μ r0) (hw4_r03 : WF4 μ (r0 + 3)) (h : G X (Rm (d + 10)) mX11_text 70 [(0, .ref r0)] [] (wr μ (r0 + 3) 0 (some r2)) 0 0 K) : G X (Rm (d + 10)) mX11_text 62 [(0, .ref r0), (2, .ref r2)] [] μ 0 0 K := by
  refine G_aload_n d_X11_text_62 rfl 0 rfl ?_
  refine G_getR (r := r0 + 3) 11 1 (w11_kd hw11_r0) (w11_f1 hw11_r0) cok11 (by decide) rfl fl_X11_19 d_X11_text_63 ?_
  refine G_aload_n d_X11_text_66 rfl 1 rfl ?_
  refine G_putR 4 0 (w4_kd hw4_r03) cok4 (by decide) rfl (Or.inl rfl) fl_X11_108 d_X11_text_67 ?_
  refine G_sub (L' := [(0, .ref r0)]) [0] rfl ?_
  exact h
theorem b_X11_text_70 {X : cX} {d : Nat} {μ : mM} {K : Option Value → mM → Prop} {r0 : Nat} (h : G X (Rm (d + 10)) mX11_text 72 [(0, .ref r0), (3, .int (nI 0))] [] μ 0 0 K) : G X (Rm (d + 10)) mX11_text 70 [(0, .ref r0)] [] μ 0 0 K := by
  refine G_iconst d_X11_text_70 ic_0 ?_
  refine G_istore_n (L' := [(3, .int (nI 0)), (0, .ref r0)]) d_X11_text_71 rfl (by decide) rfl ?_
  refine G_sub (L' := [(0, .ref r0), (3, .int (nI 0))]) [1, 0] rfl ?_
  exact h
theorem b_X11_text_72 {X : cX} {d : Nat} {μ : mM} {K : Option Value → mM → Prop} {r0 : Nat} {i3 : Nat} (hw11_r0 : WF11 μ r0) (hw4_r03 : WF4 μ (r0 + 3)) (hK : (2 : Int32) ≤ (nI i3) → K (some (.int (iv μ (r0 + 3) 4))) μ) (hb : ¬ (2 : Int32) ≤ (nI i3) → i3 < 2) (h : ¬ (2 : Int32) ≤ (nI i3) → G X (Rm (d + 10)) mX11_text 72 [(0, .ref r0), (3, .int (nI (i3 + 1)))] [] (wi μ (r0 + 121) i3 0) 0 0 K) : G X (Rm (d + 10)) mX11_text 72 [(0, .ref r0), (3, .int (nI i3))] [] μ 0 0 K := by
  refine G_iload_n d_X11_text_72 rfl 1 rfl ?_
  refine G_iconst d_X11_text_73 ic_2 ?_
  refine G_icmp_ge (tgt := 90) d_X11_text_74 rfl (fun c0 => ?_) (fun c0 => ?_)
  ·
    refine G_aload_n d_X11_text_90 rfl 0 rfl ?_
    refine G_getR (r := r0 + 3) 11 1 (w11_kd hw11_r0) (w11_f1 hw11_r0) cok11 (by decide) rfl fl_X11_19 d_X11_text_91 ?_
    refine G_getI 4 4 (w4_kd hw4_r03) cok4 (by decide) rfl fl_X11_111 d_X11_text_94 ?_
    exact G_iret rfl rfl rfl d_X11_text_97 (hK c0)
  ·
    refine G_aload_n d_X11_text_77 rfl 0 rfl ?_
    refine G_getR (r := r0 + 121) 11 5 (w11_kd hw11_r0) (w11_f5 hw11_r0) cok11 (by decide) rfl fl_X11_36 d_X11_text_78 ?_
    refine G_iload_n d_X11_text_81 rfl 1 rfl ?_
    refine G_iconst d_X11_text_82 ic_0 ?_
    refine G_zast (v := 0) i3 (w11_k5 hw11_r0) rfl (hb c0) rfl d_X11_text_83 ?_
    refine G_iinc (L' := [(3, .int (nI (i3 + 1))), (0, .ref r0)]) d_X11_text_84 1 rfl (inc1 i3) (by decide) rfl ?_
    refine G_goto (tgt := 72) d_X11_text_87 rfl ?_
    refine G_sub (L' := [(0, .ref r0), (3, .int (nI (i3 + 1)))]) [1, 0] rfl ?_
    exact (h c0)
theorem d_X11_fault_0 : decode cX11_fault 0 = .ok (.aload_n 0, 1) := by decide +kernel
theorem d_X11_fault_1 : decode cX11_fault 1 = .ok (.getfield 102, 3) := by decide +kernel
theorem d_X11_fault_4 : decode cX11_fault 4 = .ok (.ireturn, 1) := by decide +kernel
theorem b_X11_fault_0 {X : cX} {d : Nat} {μ : mM} {K : Option Value → mM → Prop} {r0 : Nat} (hw11_r0 : WF11 μ r0) (hK : K (some (.int (iv μ r0 3))) μ) : G X (Rm d) mX11_fault 0 [(0, .ref r0)] [] μ 0 0 K := by
  refine G_aload_n d_X11_fault_0 rfl 0 rfl ?_
  refine G_getI 11 3 (w11_kd hw11_r0) cok11 (by decide) rfl fl_X11_102 d_X11_fault_1 ?_
  exact G_iret rfl rfl rfl d_X11_fault_4 hK
def e_X11_fault (μ : mM) (r0 : Nat) : Int32 := (iv μ r0 3)
theorem s_X11_fault {X : cX} {d : Nat} {μ : mM} {K : Option Value → mM → Prop} {r0 : Nat} (hw11_r0 : WF11 μ r0) (hK : K (some (.int (e_X11_fault μ r0))) μ) : Ct X (Rm d) mX11_fault [.ref r0] μ K := Ct_of rfl (Nat.le_of_ble_eq_true rfl) (G_sub [0] rfl (b_X11_fault_0 hw11_r0 hK))
theorem d_X11_rule_0 : decode cX11_rule 0 = .ok (.aload_n 0, 1) := by decide +kernel
theorem d_X11_rule_1 : decode cX11_rule 1 = .ok (.getfield 26, 3) := by decide +kernel
theorem d_X11_rule_4 : decode cX11_rule 4 = .ok (.getfield 114, 3) := by decide +kernel
theorem d_X11_rule_7 : decode cX11_rule 7 = .ok (.astore_n 2, 1) := by decide +kernel
theorem d_X11_rule_8 : decode cX11_rule 8 = .ok (.iload_n 1, 1) := by decide +kernel
theorem d_X11_rule_9 : decode cX11_rule 9 = .ok (.tableswitch 102 0 7 #[47, 52, 60, 65, 71, 77, 83, 89], 47) := by decide +kernel
theorem d_X11_rule_56 : decode cX11_rule 56 = .ok (.aload_n 2, 1) := by decide +kernel
theorem d_X11_rule_57 : decode cX11_rule 57 = .ok (.getfield 117, 3) := by decide +kernel
theorem d_X11_rule_60 : decode cX11_rule 60 = .ok (.ireturn, 1) := by decide +kernel
theorem d_X11_rule_61 : decode cX11_rule 61 = .ok (.aload_n 0, 1) := by decide +kernel
theorem d_X11_rule_62 : decode cX11_rule 62 = .ok (.getfield 26, 3) := by decide +kernel
theorem d_X11_rule_65 : decode cX11_rule 65 = .ok (.getfield 120, 3) := by decide +kernel
theorem d_X11_rule_68 : decode cX11_rule 68 = .ok (.ireturn, 1) := by decide +kernel
theorem d_X11_rule_69 : decode cX11_rule 69 = .ok (.aload_n 2, 1) := by decide +kernel
theorem d_X11_rule_70 : decode cX11_rule 70 = .ok (.invokevirtual 123, 3) := by decide +kernel
theorem d_X11_rule_73 : decode cX11_rule 73 = .ok (.ireturn, 1) := by decide +kernel
theorem d_X11_rule_74 : decode cX11_rule 74 = .ok (.aload_n 2, 1) := by decide +kernel
theorem d_X11_rule_75 : decode cX11_rule 75 = .ok (.iconst 1, 1) := by decide +kernel
theorem d_X11_rule_76 : decode cX11_rule 76 = .ok (.invokevirtual 127, 3) := by decide +kernel
theorem d_X11_rule_79 : decode cX11_rule 79 = .ok (.ireturn, 1) := by decide +kernel
theorem d_X11_rule_80 : decode cX11_rule 80 = .ok (.aload_n 2, 1) := by decide +kernel
theorem d_X11_rule_81 : decode cX11_rule 81 = .ok (.iconst 1, 1) := by decide +kernel
theorem d_X11_rule_82 : decode cX11_rule 82 = .ok (.invokevirtual 131, 3) := by decide +kernel
theorem d_X11_rule_85 : decode cX11_rule 85 = .ok (.ireturn, 1) := by decide +kernel
theorem d_X11_rule_86 : decode cX11_rule 86 = .ok (.aload_n 2, 1) := by decide +kernel
theorem d_X11_rule_87 : decode cX11_rule 87 = .ok (.iconst 2, 1) := by decide +kernel
theorem d_X11_rule_88 : decode cX11_rule 88 = .ok (.invokevirtual 127, 3) := by decide +kernel
theorem d_X11_rule_91 : decode cX11_rule 91 = .ok (.ireturn, 1) := by decide +kernel
theorem d_X11_rule_92 : decode cX11_rule 92 = .ok (.aload_n 2, 1) := by decide +kernel
theorem d_X11_rule_93 : decode cX11_rule 93 = .ok (.iconst 2, 1) := by decide +kernel
theorem d_X11_rule_94 : decode cX11_rule 94 = .ok (.invokevirtual 131, 3) := by decide +kernel
theorem d_X11_rule_97 : decode cX11_rule 97 = .ok (.ireturn, 1) := by decide +kernel
theorem d_X11_rule_98 : decode cX11_rule 98 = .ok (.aload_n 2, 1) := by decide +kernel
theorem d_X11_rule_99 : decode cX11_rule 99 = .ok (.invokevirtual 134, 3) := by decide +kernel
theorem d_X11_rule_102 : decode cX11_rule 102 = .ok (.ifCond .eq 7, 3) := by decide +kernel
theorem d_X11_rule_105 : decode cX11_rule 105 = .ok (.iconst 1, 1) := by decide +kernel
theorem d_X11_rule_106 : decode cX11_rule 106 = .ok (.goto 4, 3) := by decide +kernel
theorem d_X11_rule_109 : decode cX11_rule 109 = .ok (.iconst 0, 1) := by decide +kernel
theorem d_X11_rule_110 : decode cX11_rule 110 = .ok (.ireturn, 1) := by decide +kernel
theorem d_X11_rule_111 : decode cX11_rule 111 = .ok (.iconst (-1), 1) := by decide +kernel
theorem d_X11_rule_112 : decode cX11_rule 112 = .ok (.ireturn, 1) := by decide +kernel
theorem b_X11_rule_0 {X : cX} {d : Nat} {μ : mM} {K : Option Value → mM → Prop} {r0 : Nat} {l1 : Int32} {p0 : Nat} (hw11_r0 : WF11 μ r0) (hr_p0 : rv μ r0 2 = some p0) (hw10_p0 : WF10 μ p0) (hw5_p01 : WF5 μ (p0 + 1)) (hK : l1 = 0 → K (some (.int (iv μ (p0 + 1) 0))) μ) (hK_2 : l1 = 1 → K (some (.int (iv μ p0 2))) μ) (hc_manys : l1 = 2 → Ct X (Rm (d + 2)) mX5_manys [.ref (p0 + 1)] μ (fun r μ2 => G X (Rm (d + 3)) mX11_rule 73 [] (r.toList ++ []) μ2 0 0 K)) (hc_atsThatAre : l1 = 3 → Ct X (Rm (d + 2)) mX5_atsThatAre [.ref (p0 + 1), .int 1] μ (fun r μ2 => G X (Rm (d + 3)) mX11_rule 79 [] (r.toList ++ []) μ2 0 0 K)) (hc_nextsThatAre : l1 = 4 → Ct X (Rm (d + 2)) mX5_nextsThatAre [.ref (p0 + 1), .int 1] μ (fun r μ2 => G X (Rm (d + 3)) mX11_rule 85 [] (r.toList ++ []) μ2 0 0 K)) (hc_atsThatAre_2 : l1 = 5 → Ct X (Rm (d + 2)) mX5_atsThatAre [.ref (p0 + 1), .int 2] μ (fun r μ2 => G X (Rm (d + 3)) mX11_rule 91 [] (r.toList ++ []) μ2 0 0 K)) (hc_nextsThatAre_2 : l1 = 6 → Ct X (Rm (d + 2)) mX5_nextsThatAre [.ref (p0 + 1), .int 2] μ (fun r μ2 => G X (Rm (d + 3)) mX11_rule 97 [] (r.toList ++ []) μ2 0 0 K)) (hc_isHeap : l1 = 7 → Ct X (Rm (d + 2)) mX5_isHeap [.ref (p0 + 1)] μ (fun r μ2 => G X (Rm (d + 3)) mX11_rule 102 [] (r.toList ++ []) μ2 0 0 K)) (hK_3 : (l1.toInt < 0 ∨ 7 < l1.toInt) → K (some (.int (-1))) μ) : G X (Rm (d + 3)) mX11_rule 0 [(0, .ref r0), (1, .int l1)] [] μ 0 0 K := by
  refine G_aload_n d_X11_rule_0 rfl 0 rfl ?_
  refine G_getR (r := p0) 11 2 (w11_kd hw11_r0) hr_p0 cok11 (by decide) rfl fl_X11_26 d_X11_rule_1 ?_
  refine G_getR (r := p0 + 1) 10 0 (w10_kd hw10_p0) (w10_f0 hw10_p0) cok10 (by decide) rfl fl_X11_114 d_X11_rule_4 ?_
  refine G_astore_n (L' := [(2, .ref (p0 + 1)), (0, .ref r0), (1, .int l1)]) d_X11_rule_7 rfl (by decide) rfl ?_
  refine G_iload_n d_X11_rule_8 rfl 2 rfl ?_
  by_cases c0 : l1 = 0
  ·
    refine G_tableIn (tgt := 56) (off := 47) d_X11_rule_9 (by rw [c0]; decide) (by rw [c0]; decide) (by rw [c0]; decide) rfl ?_
    refine G_aload_n d_X11_rule_56 rfl 0 rfl ?_
    refine G_getI 5 0 (w5_kd hw5_p01) cok5 (by decide) rfl fl_X11_117 d_X11_rule_57 ?_
    exact G_iret rfl rfl rfl d_X11_rule_60 (hK c0)
  have z0 := lv_neT c0 (show (0 : Int32).toInt = 0 from rfl)
  by_cases c0 : l1 = 1
  ·
    refine G_tableIn (tgt := 61) (off := 52) d_X11_rule_9 (by rw [c0]; decide) (by rw [c0]; decide) (by rw [c0]; decide) rfl ?_
    refine G_aload_n d_X11_rule_61 rfl 1 rfl ?_
    refine G_getR (r := p0) 11 2 (w11_kd hw11_r0) hr_p0 cok11 (by decide) rfl fl_X11_26 d_X11_rule_62 ?_
    refine G_getI 10 2 (w10_kd hw10_p0) cok10 (by decide) rfl fl_X11_120 d_X11_rule_65 ?_
    exact G_iret rfl rfl rfl d_X11_rule_68 (hK_2 c0)
  have z1 := lv_neT c0 (show (1 : Int32).toInt = 1 from rfl)
  by_cases c0 : l1 = 2
  ·
    refine G_tableIn (tgt := 69) (off := 60) d_X11_rule_9 (by rw [c0]; decide) (by rw [c0]; decide) (by rw [c0]; decide) rfl ?_
    refine G_aload_n d_X11_rule_69 rfl 0 rfl ?_
    refine G_sub (L' := []) [] rfl ?_
    refine G_callV (M' := mX5_manys) (R' := (Rm (d + 2))) (S := []) [] 5 (w5_kd hw5_p01) cok5 rfl ok_X5_manys ml_X11_123 pn_X5_manys (ru_Rm (by decide)) (Nat.le_of_ble_eq_true rfl) d_X11_rule_70 ?_
    exact (hc_manys c0)
  have z2 := lv_neT c0 (show (2 : Int32).toInt = 2 from rfl)
  by_cases c0 : l1 = 3
  ·
    refine G_tableIn (tgt := 74) (off := 65) d_X11_rule_9 (by rw [c0]; decide) (by rw [c0]; decide) (by rw [c0]; decide) rfl ?_
    refine G_aload_n d_X11_rule_74 rfl 0 rfl ?_
    refine G_iconst d_X11_rule_75 ic_1 ?_
    refine G_sub (L' := []) [] rfl ?_
    refine G_callV (M' := mX5_atsThatAre) (R' := (Rm (d + 2))) (S := []) [.int 1] 5 (w5_kd hw5_p01) cok5 rfl ok_X5_atsThatAre ml_X11_127 pn_X5_atsThatAre (ru_Rm (by decide)) (Nat.le_of_ble_eq_true rfl) d_X11_rule_76 ?_
    exact (hc_atsThatAre c0)
  have z3 := lv_neT c0 (show (3 : Int32).toInt = 3 from rfl)
  by_cases c0 : l1 = 4
  ·
    refine G_tableIn (tgt := 80) (off := 71) d_X11_rule_9 (by rw [c0]; decide) (by rw [c0]; decide) (by rw [c0]; decide) rfl ?_
    refine G_aload_n d_X11_rule_80 rfl 0 rfl ?_
    refine G_iconst d_X11_rule_81 ic_1 ?_
    refine G_sub (L' := []) [] rfl ?_
    refine G_callV (M' := mX5_nextsThatAre) (R' := (Rm (d + 2))) (S := []) [.int 1] 5 (w5_kd hw5_p01) cok5 rfl ok_X5_nextsThatAre ml_X11_131 pn_X5_nextsThatAre (ru_Rm (by decide)) (Nat.le_of_ble_eq_true rfl) d_X11_rule_82 ?_
    exact (hc_nextsThatAre c0)
  have z4 := lv_neT c0 (show (4 : Int32).toInt = 4 from rfl)
  by_cases c0 : l1 = 5
  ·
    refine G_tableIn (tgt := 86) (off := 77) d_X11_rule_9 (by rw [c0]; decide) (by rw [c0]; decide) (by rw [c0]; decide) rfl ?_
    refine G_aload_n d_X11_rule_86 rfl 0 rfl ?_
    refine G_iconst d_X11_rule_87 ic_2 ?_
    refine G_sub (L' := []) [] rfl ?_
    refine G_callV (M' := mX5_atsThatAre) (R' := (Rm (d + 2))) (S := []) [.int 2] 5 (w5_kd hw5_p01) cok5 rfl ok_X5_atsThatAre ml_X11_127 pn_X5_atsThatAre (ru_Rm (by decide)) (Nat.le_of_ble_eq_true rfl) d_X11_rule_88 ?_
    exact (hc_atsThatAre_2 c0)
  have z5 := lv_neT c0 (show (5 : Int32).toInt = 5 from rfl)
  by_cases c0 : l1 = 6
  ·
    refine G_tableIn (tgt := 92) (off := 83) d_X11_rule_9 (by rw [c0]; decide) (by rw [c0]; decide) (by rw [c0]; decide) rfl ?_
    refine G_aload_n d_X11_rule_92 rfl 0 rfl ?_
    refine G_iconst d_X11_rule_93 ic_2 ?_
    refine G_sub (L' := []) [] rfl ?_
    refine G_callV (M' := mX5_nextsThatAre) (R' := (Rm (d + 2))) (S := []) [.int 2] 5 (w5_kd hw5_p01) cok5 rfl ok_X5_nextsThatAre ml_X11_131 pn_X5_nextsThatAre (ru_Rm (by decide)) (Nat.le_of_ble_eq_true rfl) d_X11_rule_94 ?_
    exact (hc_nextsThatAre_2 c0)
  have z6 := lv_neT c0 (show (6 : Int32).toInt = 6 from rfl)
  by_cases c0 : l1 = 7
  ·
    refine G_tableIn (tgt := 98) (off := 89) d_X11_rule_9 (by rw [c0]; decide) (by rw [c0]; decide) (by rw [c0]; decide) rfl ?_
    refine G_aload_n d_X11_rule_98 rfl 0 rfl ?_
    refine G_sub (L' := []) [] rfl ?_
    refine G_callV (M' := mX5_isHeap) (R' := (Rm (d + 2))) (S := []) [] 5 (w5_kd hw5_p01) cok5 rfl ok_X5_isHeap ml_X11_134 pn_X5_isHeap (ru_Rm (by decide)) (Nat.le_of_ble_eq_true rfl) d_X11_rule_99 ?_
    exact (hc_isHeap c0)
  have z7 := lv_neT c0 (show (7 : Int32).toInt = 7 from rfl)
  have c0 : l1.toInt < 0 ∨ 7 < l1.toInt := by omega
  refine G_tableOut (tgt := 111) d_X11_rule_9 c0 rfl ?_
  refine G_iconst d_X11_rule_111 ic_m1 ?_
  exact G_iret rfl rfl rfl d_X11_rule_112 (hK_3 c0)
theorem b_X11_rule_73 {X : cX} {d : Nat} {μ : mM} {K : Option Value → mM → Prop} {v0 : Int32} (hK : K (some (.int v0)) μ) : G X (Rm (d + 3)) mX11_rule 73 [] [.int v0] μ 0 0 K := by
  exact G_iret rfl rfl rfl d_X11_rule_73 hK
theorem b_X11_rule_79 {X : cX} {d : Nat} {μ : mM} {K : Option Value → mM → Prop} {v0 : Int32} (hK : K (some (.int v0)) μ) : G X (Rm (d + 3)) mX11_rule 79 [] [.int v0] μ 0 0 K := by
  exact G_iret rfl rfl rfl d_X11_rule_79 hK
theorem b_X11_rule_85 {X : cX} {d : Nat} {μ : mM} {K : Option Value → mM → Prop} {v0 : Int32} (hK : K (some (.int v0)) μ) : G X (Rm (d + 3)) mX11_rule 85 [] [.int v0] μ 0 0 K := by
  exact G_iret rfl rfl rfl d_X11_rule_85 hK
theorem b_X11_rule_91 {X : cX} {d : Nat} {μ : mM} {K : Option Value → mM → Prop} {v0 : Int32} (hK : K (some (.int v0)) μ) : G X (Rm (d + 3)) mX11_rule 91 [] [.int v0] μ 0 0 K := by
  exact G_iret rfl rfl rfl d_X11_rule_91 hK
theorem b_X11_rule_97 {X : cX} {d : Nat} {μ : mM} {K : Option Value → mM → Prop} {v0 : Int32} (hK : K (some (.int v0)) μ) : G X (Rm (d + 3)) mX11_rule 97 [] [.int v0] μ 0 0 K := by
  exact G_iret rfl rfl rfl d_X11_rule_97 hK
theorem b_X11_rule_102 {X : cX} {d : Nat} {μ : mM} {K : Option Value → mM → Prop} {v0 : Int32} (hK : v0 = 0 → K (some (.int 0)) μ) (hK_2 : ¬ v0 = 0 → K (some (.int 1)) μ) : G X (Rm (d + 3)) mX11_rule 102 [] [.int v0] μ 0 0 K := by
  refine G_if_eq (tgt := 109) d_X11_rule_102 rfl (fun c0 => ?_) (fun c0 => ?_)
  ·
    refine G_iconst d_X11_rule_109 ic_0 ?_
    exact G_iret rfl rfl rfl d_X11_rule_110 (hK c0)
  ·
    refine G_iconst d_X11_rule_105 ic_1 ?_
    refine G_goto (tgt := 110) d_X11_rule_106 rfl ?_
    exact G_iret rfl rfl rfl d_X11_rule_110 (hK_2 c0)
theorem d_X11_node_0 : decode cX11_node 0 = .ok (.aload_n 0, 1) := by decide +kernel
theorem d_X11_node_1 : decode cX11_node 1 = .ok (.getfield 26, 3) := by decide +kernel
theorem d_X11_node_4 : decode cX11_node 4 = .ok (.getfield 114, 3) := by decide +kernel
theorem d_X11_node_7 : decode cX11_node 7 = .ok (.astore_n 3, 1) := by decide +kernel
theorem d_X11_node_8 : decode cX11_node 8 = .ok (.aload_n 3, 1) := by decide +kernel
theorem d_X11_node_9 : decode cX11_node 9 = .ok (.iload_n 1, 1) := by decide +kernel
theorem d_X11_node_10 : decode cX11_node 10 = .ok (.invokevirtual 138, 3) := by decide +kernel
theorem d_X11_node_13 : decode cX11_node 13 = .ok (.ifCond .eq 13, 3) := by decide +kernel
theorem d_X11_node_16 : decode cX11_node 16 = .ok (.iload_n 2, 1) := by decide +kernel
theorem d_X11_node_17 : decode cX11_node 17 = .ok (.ifCond .lt 9, 3) := by decide +kernel
theorem d_X11_node_20 : decode cX11_node 20 = .ok (.iload_n 2, 1) := by decide +kernel
theorem d_X11_node_21 : decode cX11_node 21 = .ok (.bipush 6, 2) := by decide +kernel
theorem d_X11_node_23 : decode cX11_node 23 = .ok (.if_icmp .le 5, 3) := by decide +kernel
theorem d_X11_node_26 : decode cX11_node 26 = .ok (.iconst (-1), 1) := by decide +kernel
theorem d_X11_node_27 : decode cX11_node 27 = .ok (.ireturn, 1) := by decide +kernel
theorem d_X11_node_28 : decode cX11_node 28 = .ok (.iload_n 2, 1) := by decide +kernel
theorem d_X11_node_29 : decode cX11_node 29 = .ok (.ifCond .ne 18, 3) := by decide +kernel
theorem d_X11_node_32 : decode cX11_node 32 = .ok (.aload_n 3, 1) := by decide +kernel
theorem d_X11_node_33 : decode cX11_node 33 = .ok (.getfield 142, 3) := by decide +kernel
theorem d_X11_node_36 : decode cX11_node 36 = .ok (.iload_n 1, 1) := by decide +kernel
theorem d_X11_node_37 : decode cX11_node 37 = .ok (.baload, 1) := by decide +kernel
theorem d_X11_node_38 : decode cX11_node 38 = .ok (.ifCond .eq 7, 3) := by decide +kernel
theorem d_X11_node_41 : decode cX11_node 41 = .ok (.iconst 1, 1) := by decide +kernel
theorem d_X11_node_42 : decode cX11_node 42 = .ok (.goto 4, 3) := by decide +kernel
theorem d_X11_node_45 : decode cX11_node 45 = .ok (.iconst 0, 1) := by decide +kernel
theorem d_X11_node_46 : decode cX11_node 46 = .ok (.ireturn, 1) := by decide +kernel
theorem d_X11_node_47 : decode cX11_node 47 = .ok (.iload_n 2, 1) := by decide +kernel
theorem d_X11_node_48 : decode cX11_node 48 = .ok (.iconst 3, 1) := by decide +kernel
theorem d_X11_node_49 : decode cX11_node 49 = .ok (.if_icmp .gt 14, 3) := by decide +kernel
theorem d_X11_node_52 : decode cX11_node 52 = .ok (.aload_n 3, 1) := by decide +kernel
theorem d_X11_node_53 : decode cX11_node 53 = .ok (.getfield 145, 3) := by decide +kernel
theorem d_X11_node_56 : decode cX11_node 56 = .ok (.iload_n 2, 1) := by decide +kernel
theorem d_X11_node_57 : decode cX11_node 57 = .ok (.iconst 1, 1) := by decide +kernel
theorem d_X11_node_58 : decode cX11_node 58 = .ok (.isub, 1) := by decide +kernel
theorem d_X11_node_59 : decode cX11_node 59 = .ok (.aaload, 1) := by decide +kernel
theorem d_X11_node_60 : decode cX11_node 60 = .ok (.iload_n 1, 1) := by decide +kernel
theorem d_X11_node_61 : decode cX11_node 61 = .ok (.iaload, 1) := by decide +kernel
theorem d_X11_node_62 : decode cX11_node 62 = .ok (.ireturn, 1) := by decide +kernel
theorem d_X11_node_63 : decode cX11_node 63 = .ok (.aload_n 3, 1) := by decide +kernel
theorem d_X11_node_64 : decode cX11_node 64 = .ok (.invokevirtual 149, 3) := by decide +kernel
theorem d_X11_node_67 : decode cX11_node 67 = .ok (.aload_n 3, 1) := by decide +kernel
theorem d_X11_node_68 : decode cX11_node 68 = .ok (.getfield 152, 3) := by decide +kernel
theorem d_X11_node_71 : decode cX11_node 71 = .ok (.iload_n 2, 1) := by decide +kernel
theorem d_X11_node_72 : decode cX11_node 72 = .ok (.iconst 1, 1) := by decide +kernel
theorem d_X11_node_73 : decode cX11_node 73 = .ok (.isub, 1) := by decide +kernel
theorem d_X11_node_74 : decode cX11_node 74 = .ok (.iconst 3, 1) := by decide +kernel
theorem d_X11_node_75 : decode cX11_node 75 = .ok (.isub, 1) := by decide +kernel
theorem d_X11_node_76 : decode cX11_node 76 = .ok (.aaload, 1) := by decide +kernel
theorem d_X11_node_77 : decode cX11_node 77 = .ok (.iload_n 1, 1) := by decide +kernel
theorem d_X11_node_78 : decode cX11_node 78 = .ok (.iaload, 1) := by decide +kernel
theorem d_X11_node_79 : decode cX11_node 79 = .ok (.ireturn, 1) := by decide +kernel
theorem b_X11_node_0 {X : cX} {d : Nat} {μ : mM} {K : Option Value → mM → Prop} {r0 : Nat} {i1 : Nat} {l2 : Int32} {p0 : Nat} {j0 : Nat} (hw11_r0 : WF11 μ r0) (hr_p0 : rv μ r0 2 = some p0) (hw10_p0 : WF10 μ p0) (hw5_p01 : WF5 μ (p0 + 1)) (hK : (e_X5_has μ (p0 + 1) (nI i1)) = 0 → K (some (.int (-1))) μ) (hK_2 : ¬ (e_X5_has μ (p0 + 1) (nI i1)) = 0 → l2 < 0 → K (some (.int (-1))) μ) (hc_trace : ¬ (e_X5_has μ (p0 + 1) (nI i1)) = 0 → ¬ l2 < 0 → l2 ≤ (6 : Int32) → ¬ l2 = 0 → (3 : Int32) < l2 → Ct X (Rm (d + 2)) mX5_trace [.ref (p0 + 1)] μ (fun r μ2 => G X (Rm (d + 3)) mX11_node 67 [(1, .int (nI i1)), (2, .int l2), (3, .ref (p0 + 1))] (r.toList ++ []) μ2 0 0 K)) (hi_j0 : ¬ (e_X5_has μ (p0 + 1) (nI i1)) = 0 → ¬ l2 < 0 → l2 ≤ (6 : Int32) → ¬ l2 = 0 → ¬ (3 : Int32) < l2 → l2 - 1 = nI j0) (hb : ¬ (e_X5_has μ (p0 + 1) (nI i1)) = 0 → ¬ l2 < 0 → l2 ≤ (6 : Int32) → ¬ l2 = 0 → ¬ (3 : Int32) < l2 → j0 < 3) (hb_2 : ¬ (e_X5_has μ (p0 + 1) (nI i1)) = 0 → ¬ l2 < 0 → l2 ≤ (6 : Int32) → ¬ l2 = 0 → ¬ (3 : Int32) < l2 → i1 < 6) (hK_3 : ¬ (e_X5_has μ (p0 + 1) (nI i1)) = 0 → ¬ l2 < 0 → l2 ≤ (6 : Int32) → ¬ l2 = 0 → ¬ (3 : Int32) < l2 → K (some (.int (iv μ (p0 + 1 + 3 + j0) i1))) μ) (hb_3 : ¬ (e_X5_has μ (p0 + 1) (nI i1)) = 0 → ¬ l2 < 0 → l2 ≤ (6 : Int32) → l2 = 0 → i1 < 6) (hK_4 : ¬ (e_X5_has μ (p0 + 1) (nI i1)) = 0 → ¬ l2 < 0 → l2 ≤ (6 : Int32) → l2 = 0 → (iv μ (p0 + 1 + 1) i1) = 0 → K (some (.int 0)) μ) (hK_5 : ¬ (e_X5_has μ (p0 + 1) (nI i1)) = 0 → ¬ l2 < 0 → l2 ≤ (6 : Int32) → l2 = 0 → ¬ (iv μ (p0 + 1 + 1) i1) = 0 → K (some (.int 1)) μ) (hK_6 : ¬ (e_X5_has μ (p0 + 1) (nI i1)) = 0 → ¬ l2 < 0 → ¬ l2 ≤ (6 : Int32) → K (some (.int (-1))) μ) : G X (Rm (d + 3)) mX11_node 0 [(0, .ref r0), (1, .int (nI i1)), (2, .int l2)] [] μ 0 0 K := by
  refine G_aload_n d_X11_node_0 rfl 0 rfl ?_
  refine G_getR (r := p0) 11 2 (w11_kd hw11_r0) hr_p0 cok11 (by decide) rfl fl_X11_26 d_X11_node_1 ?_
  refine G_getR (r := p0 + 1) 10 0 (w10_kd hw10_p0) (w10_f0 hw10_p0) cok10 (by decide) rfl fl_X11_114 d_X11_node_4 ?_
  refine G_astore_n (L' := [(3, .ref (p0 + 1)), (0, .ref r0), (1, .int (nI i1)), (2, .int l2)]) d_X11_node_7 rfl (by decide) rfl ?_
  refine G_aload_n d_X11_node_8 rfl 0 rfl ?_
  refine G_iload_n d_X11_node_9 rfl 2 rfl ?_
  refine G_callV (M' := mX5_has) (R' := (Rm (d + 2))) (S := []) [.int (nI i1)] 5 (w5_kd hw5_p01) cok5 rfl ok_X5_has ml_X11_138 pn_X5_has (ru_Rm (by decide)) (Nat.le_of_ble_eq_true rfl) d_X11_node_10 (s_X5_has (μ := μ)  hw5_p01 ?_)
  show G X (Rm (d + 3)) mX11_node 13 [(3, .ref (p0 + 1)), (0, .ref r0), (1, .int (nI i1)), (2, .int l2)] [.int (e_X5_has μ (p0 + 1) (nI i1))] μ 0 0 K
  refine G_if_eq (tgt := 26) d_X11_node_13 rfl (fun c0 => ?_) (fun c0 => ?_)
  ·
    refine G_iconst d_X11_node_26 ic_m1 ?_
    exact G_iret rfl rfl rfl d_X11_node_27 (hK c0)
  ·
    refine G_iload_n d_X11_node_16 rfl 3 rfl ?_
    refine G_if_lt (tgt := 26) d_X11_node_17 rfl (fun c1 => ?_) (fun c1 => ?_)
    ·
      refine G_iconst d_X11_node_26 ic_m1 ?_
      exact G_iret rfl rfl rfl d_X11_node_27 (hK_2 c0 c1)
    ·
      refine G_iload_n d_X11_node_20 rfl 3 rfl ?_
      refine G_bipush d_X11_node_21 bp_6 ?_
      refine G_icmp_le (tgt := 28) d_X11_node_23 rfl (fun c2 => ?_) (fun c2 => ?_)
      ·
        refine G_iload_n d_X11_node_28 rfl 3 rfl ?_
        refine G_if_ne (tgt := 47) d_X11_node_29 rfl (fun c3 => ?_) (fun c3 => ?_)
        ·
          refine G_iload_n d_X11_node_47 rfl 3 rfl ?_
          refine G_iconst d_X11_node_48 ic_3 ?_
          refine G_icmp_gt (tgt := 63) d_X11_node_49 rfl (fun c4 => ?_) (fun c4 => ?_)
          ·
            refine G_aload_n d_X11_node_63 rfl 0 rfl ?_
            refine G_sub (L' := [(1, .int (nI i1)), (2, .int l2), (3, .ref (p0 + 1))]) [2, 3, 0] rfl ?_
            refine G_callV (M' := mX5_trace) (R' := (Rm (d + 2))) (S := []) [] 5 (w5_kd hw5_p01) cok5 rfl ok_X5_trace ml_X11_149 pn_X5_trace (ru_Rm (by decide)) (Nat.le_of_ble_eq_true rfl) d_X11_node_64 ?_
            exact (hc_trace c0 c1 c2 c3 c4)
          ·
            refine G_aload_n d_X11_node_52 rfl 0 rfl ?_
            refine G_getR (r := p0 + 1 + 2) 5 2 (w5_kd hw5_p01) (w5_f2 hw5_p01) cok5 (by decide) rfl fl_X11_145 d_X11_node_53 ?_
            refine G_iload_n d_X11_node_56 rfl 3 rfl ?_
            refine G_iconst d_X11_node_57 ic_1 ?_
            refine G_isub d_X11_node_58 ?_
            refine G_aaldA (r := p0 + 1 + 3 + j0) j0 (w5_k2 hw5_p01) (hi_j0 c0 c1 c2 c3 c4) (hb c0 c1 c2 c3 c4) (w5_r2 hw5_p01 j0 (hb c0 c1 c2 c3 c4)) d_X11_node_59 ?_
            refine G_iload_n d_X11_node_60 rfl 2 rfl ?_
            refine G_iald i1 (w5_q2 hw5_p01 j0 (hb c0 c1 c2 c3 c4)) rfl (hb_2 c0 c1 c2 c3 c4) d_X11_node_61 ?_
            exact G_iret rfl rfl rfl d_X11_node_62 (hK_3 c0 c1 c2 c3 c4)
        ·
          refine G_aload_n d_X11_node_32 rfl 0 rfl ?_
          refine G_getR (r := p0 + 1 + 1) 5 1 (w5_kd hw5_p01) (w5_f1 hw5_p01) cok5 (by decide) rfl fl_X11_142 d_X11_node_33 ?_
          refine G_iload_n d_X11_node_36 rfl 2 rfl ?_
          refine G_zald i1 (w5_k1 hw5_p01) rfl (hb_3 c0 c1 c2 c3) d_X11_node_37 ?_
          refine G_if_eq (tgt := 45) d_X11_node_38 rfl (fun c4 => ?_) (fun c4 => ?_)
          ·
            refine G_iconst d_X11_node_45 ic_0 ?_
            exact G_iret rfl rfl rfl d_X11_node_46 (hK_4 c0 c1 c2 c3 c4)
          ·
            refine G_iconst d_X11_node_41 ic_1 ?_
            refine G_goto (tgt := 46) d_X11_node_42 rfl ?_
            exact G_iret rfl rfl rfl d_X11_node_46 (hK_5 c0 c1 c2 c3 c4)
      ·
        refine G_iconst d_X11_node_26 ic_m1 ?_
        exact G_iret rfl rfl rfl d_X11_node_27 (hK_6 c0 c1 c2)
theorem b_X11_node_67 {X : cX} {d : Nat} {μ : mM} {K : Option Value → mM → Prop} {i1 : Nat} {l2 : Int32} {r3 : Nat} {j0 : Nat} (hw5_r3 : WF5 μ r3) (hi_j0 : (l2 - 1) - 3 = nI j0) (hb : j0 < 3) (hb_2 : i1 < 6) (hK : K (some (.int (iv μ (r3 + 21 + j0) i1))) μ) : G X (Rm (d + 3)) mX11_node 67 [(1, .int (nI i1)), (2, .int l2), (3, .ref r3)] [] μ 0 0 K := by
  refine G_aload_n d_X11_node_67 rfl 2 rfl ?_
  refine G_getR (r := r3 + 20) 5 5 (w5_kd hw5_r3) (w5_f5 hw5_r3) cok5 (by decide) rfl fl_X11_152 d_X11_node_68 ?_
  refine G_iload_n d_X11_node_71 rfl 1 rfl ?_
  refine G_iconst d_X11_node_72 ic_1 ?_
  refine G_isub d_X11_node_73 ?_
  refine G_iconst d_X11_node_74 ic_3 ?_
  refine G_isub d_X11_node_75 ?_
  refine G_aaldA (r := r3 + 21 + j0) j0 (w5_k5 hw5_r3) hi_j0 hb (w5_r5 hw5_r3 j0 hb) d_X11_node_76 ?_
  refine G_iload_n d_X11_node_77 rfl 0 rfl ?_
  refine G_iald i1 (w5_q5 hw5_r3 j0 hb) rfl hb_2 d_X11_node_78 ?_
  exact G_iret rfl rfl rfl d_X11_node_79 hK
theorem d_X11_pair_0 : decode cX11_pair 0 = .ok (.aload_n 0, 1) := by decide +kernel
theorem d_X11_pair_1 : decode cX11_pair 1 = .ok (.getfield 26, 3) := by decide +kernel
theorem d_X11_pair_4 : decode cX11_pair 4 = .ok (.getfield 114, 3) := by decide +kernel
theorem d_X11_pair_7 : decode cX11_pair 7 = .ok (.astore 4, 2) := by decide +kernel
theorem d_X11_pair_9 : decode cX11_pair 9 = .ok (.aload 4, 2) := by decide +kernel
theorem d_X11_pair_11 : decode cX11_pair 11 = .ok (.iload_n 1, 1) := by decide +kernel
theorem d_X11_pair_12 : decode cX11_pair 12 = .ok (.invokevirtual 138, 3) := by decide +kernel
theorem d_X11_pair_15 : decode cX11_pair 15 = .ok (.ifCond .eq 12, 3) := by decide +kernel
theorem d_X11_pair_18 : decode cX11_pair 18 = .ok (.aload 4, 2) := by decide +kernel
theorem d_X11_pair_20 : decode cX11_pair 20 = .ok (.iload_n 2, 1) := by decide +kernel
theorem d_X11_pair_21 : decode cX11_pair 21 = .ok (.invokevirtual 138, 3) := by decide +kernel
theorem d_X11_pair_24 : decode cX11_pair 24 = .ok (.ifCond .ne 5, 3) := by decide +kernel
theorem d_X11_pair_27 : decode cX11_pair 27 = .ok (.iconst (-1), 1) := by decide +kernel
theorem d_X11_pair_28 : decode cX11_pair 28 = .ok (.ireturn, 1) := by decide +kernel
theorem d_X11_pair_29 : decode cX11_pair 29 = .ok (.iload_n 3, 1) := by decide +kernel
theorem d_X11_pair_30 : decode cX11_pair 30 = .ok (.tableswitch 59 0 2 #[26, 36, 51], 26) := by decide +kernel
theorem d_X11_pair_56 : decode cX11_pair 56 = .ok (.aload 4, 2) := by decide +kernel
theorem d_X11_pair_58 : decode cX11_pair 58 = .ok (.getfield 155, 3) := by decide +kernel
theorem d_X11_pair_61 : decode cX11_pair 61 = .ok (.iload_n 1, 1) := by decide +kernel
theorem d_X11_pair_62 : decode cX11_pair 62 = .ok (.aaload, 1) := by decide +kernel
theorem d_X11_pair_63 : decode cX11_pair 63 = .ok (.iload_n 2, 1) := by decide +kernel
theorem d_X11_pair_64 : decode cX11_pair 64 = .ok (.iaload, 1) := by decide +kernel
theorem d_X11_pair_65 : decode cX11_pair 65 = .ok (.ireturn, 1) := by decide +kernel
theorem d_X11_pair_66 : decode cX11_pair 66 = .ok (.aload 4, 2) := by decide +kernel
theorem d_X11_pair_68 : decode cX11_pair 68 = .ok (.invokevirtual 149, 3) := by decide +kernel
theorem d_X11_pair_71 : decode cX11_pair 71 = .ok (.aload 4, 2) := by decide +kernel
theorem d_X11_pair_73 : decode cX11_pair 73 = .ok (.getfield 158, 3) := by decide +kernel
theorem d_X11_pair_76 : decode cX11_pair 76 = .ok (.iload_n 1, 1) := by decide +kernel
theorem d_X11_pair_77 : decode cX11_pair 77 = .ok (.aaload, 1) := by decide +kernel
theorem d_X11_pair_78 : decode cX11_pair 78 = .ok (.iload_n 2, 1) := by decide +kernel
theorem d_X11_pair_79 : decode cX11_pair 79 = .ok (.iaload, 1) := by decide +kernel
theorem d_X11_pair_80 : decode cX11_pair 80 = .ok (.ireturn, 1) := by decide +kernel
theorem d_X11_pair_81 : decode cX11_pair 81 = .ok (.aload 4, 2) := by decide +kernel
theorem d_X11_pair_83 : decode cX11_pair 83 = .ok (.iload_n 1, 1) := by decide +kernel
theorem d_X11_pair_84 : decode cX11_pair 84 = .ok (.iload_n 2, 1) := by decide +kernel
theorem d_X11_pair_85 : decode cX11_pair 85 = .ok (.invokevirtual 161, 3) := by decide +kernel
theorem d_X11_pair_88 : decode cX11_pair 88 = .ok (.ireturn, 1) := by decide +kernel
theorem d_X11_pair_89 : decode cX11_pair 89 = .ok (.iconst (-1), 1) := by decide +kernel
theorem d_X11_pair_90 : decode cX11_pair 90 = .ok (.ireturn, 1) := by decide +kernel
theorem b_X11_pair_0 {X : cX} {d : Nat} {μ : mM} {K : Option Value → mM → Prop} {r0 : Nat} {i1 : Nat} {i2 : Nat} {l3 : Int32} {p0 : Nat} (hw11_r0 : WF11 μ r0) (hr_p0 : rv μ r0 2 = some p0) (hw10_p0 : WF10 μ p0) (hw5_p01 : WF5 μ (p0 + 1)) (hK : (e_X5_has μ (p0 + 1) (nI i1)) = 0 → K (some (.int (-1))) μ) (hb : ¬ (e_X5_has μ (p0 + 1) (nI i1)) = 0 → ¬ (e_X5_has μ (p0 + 1) (nI i2)) = 0 → l3 = 0 → i1 < 6) (hb_2 : ¬ (e_X5_has μ (p0 + 1) (nI i1)) = 0 → ¬ (e_X5_has μ (p0 + 1) (nI i2)) = 0 → l3 = 0 → i2 < 6) (hK_2 : ¬ (e_X5_has μ (p0 + 1) (nI i1)) = 0 → ¬ (e_X5_has μ (p0 + 1) (nI i2)) = 0 → l3 = 0 → K (some (.int (iv μ (p0 + 1 + 7 + i1) i2))) μ) (hc_trace : ¬ (e_X5_has μ (p0 + 1) (nI i1)) = 0 → ¬ (e_X5_has μ (p0 + 1) (nI i2)) = 0 → l3 = 1 → Ct X (Rm (d + 2)) mX5_trace [.ref (p0 + 1)] μ (fun r μ2 => G X (Rm (d + 3)) mX11_pair 71 [(1, .int (nI i1)), (2, .int (nI i2)), (4, .ref (p0 + 1))] (r.toList ++ []) μ2 0 0 K)) (hs : ¬ (e_X5_has μ (p0 + 1) (nI i1)) = 0 → ¬ (e_X5_has μ (p0 + 1) (nI i2)) = 0 → l3 = 2 → ((nI i1) = (nI i2) → i1 < 6)) (hK_3 : ¬ (e_X5_has μ (p0 + 1) (nI i1)) = 0 → ¬ (e_X5_has μ (p0 + 1) (nI i2)) = 0 → l3 = 2 → K (some (.int (e_X5_sameness μ (p0 + 1) i1 (nI i2)))) μ) (hK_4 : ¬ (e_X5_has μ (p0 + 1) (nI i1)) = 0 → ¬ (e_X5_has μ (p0 + 1) (nI i2)) = 0 → (l3.toInt < 0 ∨ 2 < l3.toInt) → K (some (.int (-1))) μ) (hK_5 : ¬ (e_X5_has μ (p0 + 1) (nI i1)) = 0 → (e_X5_has μ (p0 + 1) (nI i2)) = 0 → K (some (.int (-1))) μ) : G X (Rm (d + 3)) mX11_pair 0 [(0, .ref r0), (1, .int (nI i1)), (2, .int (nI i2)), (3, .int l3)] [] μ 0 0 K := by
  refine G_aload_n d_X11_pair_0 rfl 0 rfl ?_
  refine G_getR (r := p0) 11 2 (w11_kd hw11_r0) hr_p0 cok11 (by decide) rfl fl_X11_26 d_X11_pair_1 ?_
  refine G_getR (r := p0 + 1) 10 0 (w10_kd hw10_p0) (w10_f0 hw10_p0) cok10 (by decide) rfl fl_X11_114 d_X11_pair_4 ?_
  refine G_astore (L' := [(4, .ref (p0 + 1)), (0, .ref r0), (1, .int (nI i1)), (2, .int (nI i2)), (3, .int l3)]) d_X11_pair_7 (by decide) rfl ?_
  refine G_aload d_X11_pair_9 0 rfl ?_
  refine G_iload_n d_X11_pair_11 rfl 2 rfl ?_
  refine G_callV (M' := mX5_has) (R' := (Rm (d + 2))) (S := []) [.int (nI i1)] 5 (w5_kd hw5_p01) cok5 rfl ok_X5_has ml_X11_138 pn_X5_has (ru_Rm (by decide)) (Nat.le_of_ble_eq_true rfl) d_X11_pair_12 (s_X5_has (μ := μ)  hw5_p01 ?_)
  show G X (Rm (d + 3)) mX11_pair 15 [(4, .ref (p0 + 1)), (0, .ref r0), (1, .int (nI i1)), (2, .int (nI i2)), (3, .int l3)] [.int (e_X5_has μ (p0 + 1) (nI i1))] μ 0 0 K
  refine G_if_eq (tgt := 27) d_X11_pair_15 rfl (fun c0 => ?_) (fun c0 => ?_)
  ·
    refine G_iconst d_X11_pair_27 ic_m1 ?_
    exact G_iret rfl rfl rfl d_X11_pair_28 (hK c0)
  ·
    refine G_aload d_X11_pair_18 0 rfl ?_
    refine G_iload_n d_X11_pair_20 rfl 3 rfl ?_
    refine G_callV (M' := mX5_has) (R' := (Rm (d + 2))) (S := []) [.int (nI i2)] 5 (w5_kd hw5_p01) cok5 rfl ok_X5_has ml_X11_138 pn_X5_has (ru_Rm (by decide)) (Nat.le_of_ble_eq_true rfl) d_X11_pair_21 (s_X5_has (μ := μ)  hw5_p01 ?_)
    show G X (Rm (d + 3)) mX11_pair 24 [(4, .ref (p0 + 1)), (0, .ref r0), (1, .int (nI i1)), (2, .int (nI i2)), (3, .int l3)] [.int (e_X5_has μ (p0 + 1) (nI i2))] μ 0 0 K
    refine G_if_ne (tgt := 29) d_X11_pair_24 rfl (fun c1 => ?_) (fun c1 => ?_)
    ·
      refine G_iload_n d_X11_pair_29 rfl 4 rfl ?_
      by_cases c2 : l3 = 0
      ·
        refine G_tableIn (tgt := 56) (off := 26) d_X11_pair_30 (by rw [c2]; decide) (by rw [c2]; decide) (by rw [c2]; decide) rfl ?_
        refine G_aload d_X11_pair_56 0 rfl ?_
        refine G_getR (r := p0 + 1 + 6) 5 3 (w5_kd hw5_p01) (w5_f3 hw5_p01) cok5 (by decide) rfl fl_X11_155 d_X11_pair_58 ?_
        refine G_iload_n d_X11_pair_61 rfl 2 rfl ?_
        refine G_aaldA (r := p0 + 1 + 7 + i1) i1 (w5_k3 hw5_p01) rfl (hb c0 c1 c2) (w5_r3 hw5_p01 i1 (hb c0 c1 c2)) d_X11_pair_62 ?_
        refine G_iload_n d_X11_pair_63 rfl 3 rfl ?_
        refine G_iald i2 (w5_q3 hw5_p01 i1 (hb c0 c1 c2)) rfl (hb_2 c0 c1 c2) d_X11_pair_64 ?_
        exact G_iret rfl rfl rfl d_X11_pair_65 (hK_2 c0 c1 c2)
      have z0 := lv_neT c2 (show (0 : Int32).toInt = 0 from rfl)
      by_cases c2 : l3 = 1
      ·
        refine G_tableIn (tgt := 66) (off := 36) d_X11_pair_30 (by rw [c2]; decide) (by rw [c2]; decide) (by rw [c2]; decide) rfl ?_
        refine G_aload d_X11_pair_66 0 rfl ?_
        refine G_sub (L' := [(1, .int (nI i1)), (2, .int (nI i2)), (4, .ref (p0 + 1))]) [2, 3, 0] rfl ?_
        refine G_callV (M' := mX5_trace) (R' := (Rm (d + 2))) (S := []) [] 5 (w5_kd hw5_p01) cok5 rfl ok_X5_trace ml_X11_149 pn_X5_trace (ru_Rm (by decide)) (Nat.le_of_ble_eq_true rfl) d_X11_pair_68 ?_
        exact (hc_trace c0 c1 c2)
      have z1 := lv_neT c2 (show (1 : Int32).toInt = 1 from rfl)
      by_cases c2 : l3 = 2
      ·
        refine G_tableIn (tgt := 81) (off := 51) d_X11_pair_30 (by rw [c2]; decide) (by rw [c2]; decide) (by rw [c2]; decide) rfl ?_
        refine G_aload d_X11_pair_81 0 rfl ?_
        refine G_iload_n d_X11_pair_83 rfl 2 rfl ?_
        refine G_iload_n d_X11_pair_84 rfl 3 rfl ?_
        refine G_callV (M' := mX5_sameness) (R' := (Rm (d + 2))) (S := []) [.int (nI i1), .int (nI i2)] 5 (w5_kd hw5_p01) cok5 rfl ok_X5_sameness ml_X11_161 pn_X5_sameness (ru_Rm (by decide)) (Nat.le_of_ble_eq_true rfl) d_X11_pair_85 (s_X5_sameness (μ := μ) (i1 := i1) hw5_p01 (hs c0 c1 c2) ?_)
        show G X (Rm (d + 3)) mX11_pair 88 [(4, .ref (p0 + 1)), (0, .ref r0), (1, .int (nI i1)), (2, .int (nI i2)), (3, .int l3)] [.int (e_X5_sameness μ (p0 + 1) i1 (nI i2))] μ 0 0 K
        exact G_iret rfl rfl rfl d_X11_pair_88 (hK_3 c0 c1 c2)
      have z2 := lv_neT c2 (show (2 : Int32).toInt = 2 from rfl)
      have c2 : l3.toInt < 0 ∨ 2 < l3.toInt := by omega
      refine G_tableOut (tgt := 89) d_X11_pair_30 c2 rfl ?_
      refine G_iconst d_X11_pair_89 ic_m1 ?_
      exact G_iret rfl rfl rfl d_X11_pair_90 (hK_4 c0 c1 c2)
    ·
      refine G_iconst d_X11_pair_27 ic_m1 ?_
      exact G_iret rfl rfl rfl d_X11_pair_28 (hK_5 c0 c1)
theorem b_X11_pair_71 {X : cX} {d : Nat} {μ : mM} {K : Option Value → mM → Prop} {i1 : Nat} {i2 : Nat} {r4 : Nat} (hw5_r4 : WF5 μ r4) (hb : i1 < 6) (hb_2 : i2 < 6) (hK : K (some (.int (iv μ (r4 + 14 + i1) i2))) μ) : G X (Rm (d + 3)) mX11_pair 71 [(1, .int (nI i1)), (2, .int (nI i2)), (4, .ref r4)] [] μ 0 0 K := by
  refine G_aload d_X11_pair_71 2 rfl ?_
  refine G_getR (r := r4 + 13) 5 4 (w5_kd hw5_r4) (w5_f4 hw5_r4) cok5 (by decide) rfl fl_X11_158 d_X11_pair_73 ?_
  refine G_iload_n d_X11_pair_76 rfl 0 rfl ?_
  refine G_aaldA (r := r4 + 14 + i1) i1 (w5_k4 hw5_r4) rfl hb (w5_r4 hw5_r4 i1 hb) d_X11_pair_77 ?_
  refine G_iload_n d_X11_pair_78 rfl 1 rfl ?_
  refine G_iald i2 (w5_q4 hw5_r4 i1 hb) rfl hb_2 d_X11_pair_79 ?_
  exact G_iret rfl rfl rfl d_X11_pair_80 hK
theorem d_X11_held_0 : decode cX11_held 0 = .ok (.iload_n 1, 1) := by decide +kernel
theorem d_X11_held_1 : decode cX11_held 1 = .ok (.invokestatic 165, 3) := by decide +kernel
theorem d_X11_held_4 : decode cX11_held 4 = .ok (.ifCond .eq 17, 3) := by decide +kernel
theorem d_X11_held_7 : decode cX11_held 7 = .ok (.aload_n 0, 1) := by decide +kernel
theorem d_X11_held_8 : decode cX11_held 8 = .ok (.getfield 26, 3) := by decide +kernel
theorem d_X11_held_11 : decode cX11_held 11 = .ok (.getfield 114, 3) := by decide +kernel
theorem d_X11_held_14 : decode cX11_held 14 = .ok (.iload_n 1, 1) := by decide +kernel
theorem d_X11_held_15 : decode cX11_held 15 = .ok (.invokevirtual 168, 3) := by decide +kernel
theorem d_X11_held_18 : decode cX11_held 18 = .ok (.goto 4, 3) := by decide +kernel
theorem d_X11_held_21 : decode cX11_held 21 = .ok (.iconst (-1), 1) := by decide +kernel
theorem d_X11_held_22 : decode cX11_held 22 = .ok (.ireturn, 1) := by decide +kernel
theorem b_X11_held_0 {X : cX} {d : Nat} {μ : mM} {K : Option Value → mM → Prop} {r0 : Nat} {l1 : Int32} {p0 : Nat} (hK : (e_X11_isVariable μ l1) = 0 → K (some (.int (-1))) μ) (hw11_r0 : WF11 μ r0) (hr_p0 : rv μ r0 2 = some p0) (hw10_p0 : WF10 μ p0) (hw5_p01 : WF5 μ (p0 + 1)) (hc_holding : ¬ (e_X11_isVariable μ l1) = 0 → Ct X (Rm (d + 1)) mX5_holding [.ref (p0 + 1), .int l1] μ (fun r μ2 => G X (Rm (d + 2)) mX11_held 18 [] (r.toList ++ []) μ2 0 0 K)) : G X (Rm (d + 2)) mX11_held 0 [(0, .ref r0), (1, .int l1)] [] μ 0 0 K := by
  refine G_iload_n d_X11_held_0 rfl 1 rfl ?_
  refine G_callS (M' := mX11_isVariable) (R' := (Rm (d + 1))) (S := []) [.int l1] ok_X11_isVariable ml_X11_165 pn_X11_isVariable (ru_Rm (by decide)) (Nat.le_of_ble_eq_true rfl) d_X11_held_1 (s_X11_isVariable (μ := μ)   ?_)
  show G X (Rm (d + 2)) mX11_held 4 [(0, .ref r0), (1, .int l1)] [.int (e_X11_isVariable μ l1)] μ 0 0 K
  refine G_if_eq (tgt := 21) d_X11_held_4 rfl (fun c0 => ?_) (fun c0 => ?_)
  ·
    refine G_iconst d_X11_held_21 ic_m1 ?_
    exact G_iret rfl rfl rfl d_X11_held_22 (hK c0)
  ·
    refine G_aload_n d_X11_held_7 rfl 0 rfl ?_
    refine G_getR (r := p0) 11 2 (w11_kd hw11_r0) hr_p0 cok11 (by decide) rfl fl_X11_26 d_X11_held_8 ?_
    refine G_getR (r := p0 + 1) 10 0 (w10_kd hw10_p0) (w10_f0 hw10_p0) cok10 (by decide) rfl fl_X11_114 d_X11_held_11 ?_
    refine G_iload_n d_X11_held_14 rfl 1 rfl ?_
    refine G_sub (L' := []) [] rfl ?_
    refine G_callV (M' := mX5_holding) (R' := (Rm (d + 1))) (S := []) [.int l1] 5 (w5_kd hw5_p01) cok5 rfl ok_X5_holding ml_X11_168 pn_X5_holding (ru_Rm (by decide)) (Nat.le_of_ble_eq_true rfl) d_X11_held_15 ?_
    exact (hc_holding c0)
theorem b_X11_held_18 {X : cX} {d : Nat} {μ : mM} {K : Option Value → mM → Prop} {v0 : Int32} (hK : K (some (.int v0)) μ) : G X (Rm (d + 2)) mX11_held 18 [] [.int v0] μ 0 0 K := by
  refine G_goto (tgt := 22) d_X11_held_18 rfl ?_
  exact G_iret rfl rfl rfl d_X11_held_22 hK
theorem d_X11_ask_0 : decode cX11_ask 0 = .ok (.iload_n 1, 1) := by decide +kernel
theorem d_X11_ask_1 : decode cX11_ask 1 = .ok (.ifCond .lt 14, 3) := by decide +kernel
theorem d_X11_ask_4 : decode cX11_ask 4 = .ok (.iload_n 1, 1) := by decide +kernel
theorem d_X11_ask_5 : decode cX11_ask 5 = .ok (.aload_n 0, 1) := by decide +kernel
theorem d_X11_ask_6 : decode cX11_ask 6 = .ok (.getfield 26, 3) := by decide +kernel
theorem d_X11_ask_9 : decode cX11_ask 9 = .ok (.getfield 120, 3) := by decide +kernel
theorem d_X11_ask_12 : decode cX11_ask 12 = .ok (.if_icmp .lt 5, 3) := by decide +kernel
theorem d_X11_ask_15 : decode cX11_ask 15 = .ok (.iconst (-1), 1) := by decide +kernel
theorem d_X11_ask_16 : decode cX11_ask 16 = .ok (.ireturn, 1) := by decide +kernel
theorem d_X11_ask_17 : decode cX11_ask 17 = .ok (.aload_n 0, 1) := by decide +kernel
theorem d_X11_ask_18 : decode cX11_ask 18 = .ok (.getfield 26, 3) := by decide +kernel
theorem d_X11_ask_21 : decode cX11_ask 21 = .ok (.getfield 114, 3) := by decide +kernel
theorem d_X11_ask_24 : decode cX11_ask 24 = .ok (.invokevirtual 149, 3) := by decide +kernel
theorem d_X11_ask_27 : decode cX11_ask 27 = .ok (.aload_n 0, 1) := by decide +kernel
theorem d_X11_ask_28 : decode cX11_ask 28 = .ok (.getfield 26, 3) := by decide +kernel
theorem d_X11_ask_31 : decode cX11_ask 31 = .ok (.getfield 171, 3) := by decide +kernel
theorem d_X11_ask_34 : decode cX11_ask 34 = .ok (.iload_n 1, 1) := by decide +kernel
theorem d_X11_ask_35 : decode cX11_ask 35 = .ok (.aaload, 1) := by decide +kernel
theorem d_X11_ask_36 : decode cX11_ask 36 = .ok (.aload_n 0, 1) := by decide +kernel
theorem d_X11_ask_37 : decode cX11_ask 37 = .ok (.getfield 26, 3) := by decide +kernel
theorem d_X11_ask_40 : decode cX11_ask 40 = .ok (.getfield 114, 3) := by decide +kernel
theorem d_X11_ask_43 : decode cX11_ask 43 = .ok (.invokevirtual 175, 3) := by decide +kernel
theorem d_X11_ask_46 : decode cX11_ask 46 = .ok (.ireturn, 1) := by decide +kernel
theorem b_X11_ask_0 {X : cX} {d : Nat} {μ : mM} {K : Option Value → mM → Prop} {r0 : Nat} {l1 : Int32} {p0 : Nat} (hK : l1 < 0 → K (some (.int (-1))) μ) (hw11_r0 : WF11 μ r0) (hr_p0 : rv μ r0 2 = some p0) (hw10_p0 : WF10 μ p0) (hw5_p01 : WF5 μ (p0 + 1)) (hc_trace : ¬ l1 < 0 → l1 < (iv μ p0 2) → Ct X (Rm (d + 4)) mX5_trace [.ref (p0 + 1)] μ (fun r μ2 => G X (Rm (d + 5)) mX11_ask 27 [(0, .ref r0), (1, .int l1)] (r.toList ++ []) μ2 0 0 K)) (hK_2 : ¬ l1 < 0 → ¬ l1 < (iv μ p0 2) → K (some (.int (-1))) μ) : G X (Rm (d + 5)) mX11_ask 0 [(0, .ref r0), (1, .int l1)] [] μ 0 0 K := by
  refine G_iload_n d_X11_ask_0 rfl 1 rfl ?_
  refine G_if_lt (tgt := 15) d_X11_ask_1 rfl (fun c0 => ?_) (fun c0 => ?_)
  ·
    refine G_iconst d_X11_ask_15 ic_m1 ?_
    exact G_iret rfl rfl rfl d_X11_ask_16 (hK c0)
  ·
    refine G_iload_n d_X11_ask_4 rfl 1 rfl ?_
    refine G_aload_n d_X11_ask_5 rfl 0 rfl ?_
    refine G_getR (r := p0) 11 2 (w11_kd hw11_r0) hr_p0 cok11 (by decide) rfl fl_X11_26 d_X11_ask_6 ?_
    refine G_getI 10 2 (w10_kd hw10_p0) cok10 (by decide) rfl fl_X11_120 d_X11_ask_9 ?_
    refine G_icmp_lt (tgt := 17) d_X11_ask_12 rfl (fun c1 => ?_) (fun c1 => ?_)
    ·
      refine G_aload_n d_X11_ask_17 rfl 0 rfl ?_
      refine G_getR (r := p0) 11 2 (w11_kd hw11_r0) hr_p0 cok11 (by decide) rfl fl_X11_26 d_X11_ask_18 ?_
      refine G_getR (r := p0 + 1) 10 0 (w10_kd hw10_p0) (w10_f0 hw10_p0) cok10 (by decide) rfl fl_X11_114 d_X11_ask_21 ?_
      refine G_callV (M' := mX5_trace) (R' := (Rm (d + 4))) (S := []) [] 5 (w5_kd hw5_p01) cok5 rfl ok_X5_trace ml_X11_149 pn_X5_trace (ru_Rm (by decide)) (Nat.le_of_ble_eq_true rfl) d_X11_ask_24 ?_
      exact (hc_trace c0 c1)
    ·
      refine G_iconst d_X11_ask_15 ic_m1 ?_
      exact G_iret rfl rfl rfl d_X11_ask_16 (hK_2 c0 c1)
theorem b_X11_ask_27 {X : cX} {d : Nat} {μ : mM} {K : Option Value → mM → Prop} {r0 : Nat} {i1 : Nat} {p0 : Nat} (hw11_r0 : WF11 μ r0) (hr_p0 : rv μ r0 2 = some p0) (hw10_p0 : WF10 μ p0) (hb : i1 < 4) (hw3_p0268i1 : WF3 μ (p0 + 26 + 8 * i1)) (hc_worth : Ct X (Rm (d + 4)) mX3_worth [.ref (p0 + 26 + 8 * i1), .ref (p0 + 1)] μ (fun r μ2 => G X (Rm (d + 5)) mX11_ask 46 [] (r.toList ++ []) μ2 0 0 K)) : G X (Rm (d + 5)) mX11_ask 27 [(0, .ref r0), (1, .int (nI i1))] [] μ 0 0 K := by
  refine G_aload_n d_X11_ask_27 rfl 0 rfl ?_
  refine G_getR (r := p0) 11 2 (w11_kd hw11_r0) hr_p0 cok11 (by decide) rfl fl_X11_26 d_X11_ask_28 ?_
  refine G_getR (r := p0 + 25) 10 1 (w10_kd hw10_p0) (w10_f1 hw10_p0) cok10 (by decide) rfl fl_X11_171 d_X11_ask_31 ?_
  refine G_iload_n d_X11_ask_34 rfl 1 rfl ?_
  refine G_aaldF (r := p0 + 26 + 8 * i1) i1 (w10_k1 hw10_p0) rfl hb (w10_r1 hw10_p0 i1 hb) d_X11_ask_35 ?_
  refine G_aload_n d_X11_ask_36 rfl 0 rfl ?_
  refine G_getR (r := p0) 11 2 (w11_kd hw11_r0) hr_p0 cok11 (by decide) rfl fl_X11_26 d_X11_ask_37 ?_
  refine G_getR (r := p0 + 1) 10 0 (w10_kd hw10_p0) (w10_f0 hw10_p0) cok10 (by decide) rfl fl_X11_114 d_X11_ask_40 ?_
  refine G_sub (L' := []) [] rfl ?_
  refine G_callV (M' := mX3_worth) (R' := (Rm (d + 4))) (S := []) [.ref (p0 + 1)] 3 (w3_kd hw3_p0268i1) cok3 rfl ok_X3_worth ml_X11_175 pn_X3_worth (ru_Rm (by decide)) (Nat.le_of_ble_eq_true rfl) d_X11_ask_43 ?_
  exact hc_worth
theorem b_X11_ask_46 {X : cX} {d : Nat} {μ : mM} {K : Option Value → mM → Prop} {v0 : Int32} (hK : K (some (.int v0)) μ) : G X (Rm (d + 5)) mX11_ask 46 [] [.int v0] μ 0 0 K := by
  exact G_iret rfl rfl rfl d_X11_ask_46 hK
theorem d_X11_formula_0 : decode cX11_formula 0 = .ok (.iload_n 1, 1) := by decide +kernel
theorem d_X11_formula_1 : decode cX11_formula 1 = .ok (.ifCond .lt 14, 3) := by decide +kernel
theorem d_X11_formula_4 : decode cX11_formula 4 = .ok (.iload_n 1, 1) := by decide +kernel
theorem d_X11_formula_5 : decode cX11_formula 5 = .ok (.aload_n 0, 1) := by decide +kernel
theorem d_X11_formula_6 : decode cX11_formula 6 = .ok (.getfield 26, 3) := by decide +kernel
theorem d_X11_formula_9 : decode cX11_formula 9 = .ok (.getfield 120, 3) := by decide +kernel
theorem d_X11_formula_12 : decode cX11_formula 12 = .ok (.if_icmp .lt 5, 3) := by decide +kernel
theorem d_X11_formula_15 : decode cX11_formula 15 = .ok (.iconst (-1), 1) := by decide +kernel
theorem d_X11_formula_16 : decode cX11_formula 16 = .ok (.ireturn, 1) := by decide +kernel
theorem d_X11_formula_17 : decode cX11_formula 17 = .ok (.aload_n 0, 1) := by decide +kernel
theorem d_X11_formula_18 : decode cX11_formula 18 = .ok (.getfield 26, 3) := by decide +kernel
theorem d_X11_formula_21 : decode cX11_formula 21 = .ok (.getfield 171, 3) := by decide +kernel
theorem d_X11_formula_24 : decode cX11_formula 24 = .ok (.iload_n 1, 1) := by decide +kernel
theorem d_X11_formula_25 : decode cX11_formula 25 = .ok (.aaload, 1) := by decide +kernel
theorem d_X11_formula_26 : decode cX11_formula 26 = .ok (.astore_n 3, 1) := by decide +kernel
theorem d_X11_formula_27 : decode cX11_formula 27 = .ok (.iload_n 2, 1) := by decide +kernel
theorem d_X11_formula_28 : decode cX11_formula 28 = .ok (.tableswitch 52 0 3 #[32, 37, 42, 47], 32) := by decide +kernel
theorem d_X11_formula_60 : decode cX11_formula 60 = .ok (.aload_n 3, 1) := by decide +kernel
theorem d_X11_formula_61 : decode cX11_formula 61 = .ok (.getfield 181, 3) := by decide +kernel
theorem d_X11_formula_64 : decode cX11_formula 64 = .ok (.ireturn, 1) := by decide +kernel
theorem d_X11_formula_65 : decode cX11_formula 65 = .ok (.aload_n 3, 1) := by decide +kernel
theorem d_X11_formula_66 : decode cX11_formula 66 = .ok (.invokevirtual 184, 3) := by decide +kernel
theorem d_X11_formula_69 : decode cX11_formula 69 = .ok (.ireturn, 1) := by decide +kernel
theorem d_X11_formula_70 : decode cX11_formula 70 = .ok (.aload_n 3, 1) := by decide +kernel
theorem d_X11_formula_71 : decode cX11_formula 71 = .ok (.getfield 187, 3) := by decide +kernel
theorem d_X11_formula_74 : decode cX11_formula 74 = .ok (.ireturn, 1) := by decide +kernel
theorem d_X11_formula_75 : decode cX11_formula 75 = .ok (.aload_n 3, 1) := by decide +kernel
theorem d_X11_formula_76 : decode cX11_formula 76 = .ok (.getfield 190, 3) := by decide +kernel
theorem d_X11_formula_79 : decode cX11_formula 79 = .ok (.ireturn, 1) := by decide +kernel
theorem d_X11_formula_80 : decode cX11_formula 80 = .ok (.iconst (-1), 1) := by decide +kernel
theorem d_X11_formula_81 : decode cX11_formula 81 = .ok (.ireturn, 1) := by decide +kernel
theorem b_X11_formula_0 {X : cX} {d : Nat} {μ : mM} {K : Option Value → mM → Prop} {r0 : Nat} {i1 : Nat} {l2 : Int32} {p0 : Nat} (hK : (nI i1) < 0 → K (some (.int (-1))) μ) (hw11_r0 : WF11 μ r0) (hr_p0 : rv μ r0 2 = some p0) (hw10_p0 : WF10 μ p0) (hb : ¬ (nI i1) < 0 → (nI i1) < (iv μ p0 2) → i1 < 4) (hw3_p0268i1 : WF3 μ (p0 + 26 + 8 * i1)) (hK_2 : ¬ (nI i1) < 0 → (nI i1) < (iv μ p0 2) → l2 = 0 → K (some (.int (iv μ (p0 + 26 + 8 * i1) 0))) μ) (hc_allBits : ¬ (nI i1) < 0 → (nI i1) < (iv μ p0 2) → l2 = 1 → Ct X (Rm d) mX3_allBits [.ref (p0 + 26 + 8 * i1)] μ (fun r μ2 => G X (Rm (d + 1)) mX11_formula 69 [] (r.toList ++ []) μ2 0 0 K)) (hK_3 : ¬ (nI i1) < 0 → (nI i1) < (iv μ p0 2) → l2 = 2 → K (some (.int (iv μ (p0 + 26 + 8 * i1) 3))) μ) (hK_4 : ¬ (nI i1) < 0 → (nI i1) < (iv μ p0 2) → l2 = 3 → K (some (.int (iv μ (p0 + 26 + 8 * i1) 8))) μ) (hK_5 : ¬ (nI i1) < 0 → (nI i1) < (iv μ p0 2) → (l2.toInt < 0 ∨ 3 < l2.toInt) → K (some (.int (-1))) μ) (hK_6 : ¬ (nI i1) < 0 → ¬ (nI i1) < (iv μ p0 2) → K (some (.int (-1))) μ) : G X (Rm (d + 1)) mX11_formula 0 [(0, .ref r0), (1, .int (nI i1)), (2, .int l2)] [] μ 0 0 K := by
  refine G_iload_n d_X11_formula_0 rfl 1 rfl ?_
  refine G_if_lt (tgt := 15) d_X11_formula_1 rfl (fun c0 => ?_) (fun c0 => ?_)
  ·
    refine G_iconst d_X11_formula_15 ic_m1 ?_
    exact G_iret rfl rfl rfl d_X11_formula_16 (hK c0)
  ·
    refine G_iload_n d_X11_formula_4 rfl 1 rfl ?_
    refine G_aload_n d_X11_formula_5 rfl 0 rfl ?_
    refine G_getR (r := p0) 11 2 (w11_kd hw11_r0) hr_p0 cok11 (by decide) rfl fl_X11_26 d_X11_formula_6 ?_
    refine G_getI 10 2 (w10_kd hw10_p0) cok10 (by decide) rfl fl_X11_120 d_X11_formula_9 ?_
    refine G_icmp_lt (tgt := 17) d_X11_formula_12 rfl (fun c1 => ?_) (fun c1 => ?_)
    ·
      refine G_aload_n d_X11_formula_17 rfl 0 rfl ?_
      refine G_getR (r := p0) 11 2 (w11_kd hw11_r0) hr_p0 cok11 (by decide) rfl fl_X11_26 d_X11_formula_18 ?_
      refine G_getR (r := p0 + 25) 10 1 (w10_kd hw10_p0) (w10_f1 hw10_p0) cok10 (by decide) rfl fl_X11_171 d_X11_formula_21 ?_
      refine G_iload_n d_X11_formula_24 rfl 1 rfl ?_
      refine G_aaldF (r := p0 + 26 + 8 * i1) i1 (w10_k1 hw10_p0) rfl (hb c0 c1) (w10_r1 hw10_p0 i1 (hb c0 c1)) d_X11_formula_25 ?_
      refine G_astore_n (L' := [(3, .ref (p0 + 26 + 8 * i1)), (0, .ref r0), (1, .int (nI i1)), (2, .int l2)]) d_X11_formula_26 rfl (by decide) rfl ?_
      refine G_iload_n d_X11_formula_27 rfl 3 rfl ?_
      by_cases c2 : l2 = 0
      ·
        refine G_tableIn (tgt := 60) (off := 32) d_X11_formula_28 (by rw [c2]; decide) (by rw [c2]; decide) (by rw [c2]; decide) rfl ?_
        refine G_aload_n d_X11_formula_60 rfl 0 rfl ?_
        refine G_getI 3 0 (w3_kd hw3_p0268i1) cok3 (by decide) rfl fl_X11_181 d_X11_formula_61 ?_
        exact G_iret rfl rfl rfl d_X11_formula_64 (hK_2 c0 c1 c2)
      have z0 := lv_neT c2 (show (0 : Int32).toInt = 0 from rfl)
      by_cases c2 : l2 = 1
      ·
        refine G_tableIn (tgt := 65) (off := 37) d_X11_formula_28 (by rw [c2]; decide) (by rw [c2]; decide) (by rw [c2]; decide) rfl ?_
        refine G_aload_n d_X11_formula_65 rfl 0 rfl ?_
        refine G_sub (L' := []) [] rfl ?_
        refine G_callV (M' := mX3_allBits) (R' := (Rm d)) (S := []) [] 3 (w3_kd hw3_p0268i1) cok3 rfl ok_X3_allBits ml_X11_184 pn_X3_allBits (ru_Rm (by decide)) (Nat.le_of_ble_eq_true rfl) d_X11_formula_66 ?_
        exact (hc_allBits c0 c1 c2)
      have z1 := lv_neT c2 (show (1 : Int32).toInt = 1 from rfl)
      by_cases c2 : l2 = 2
      ·
        refine G_tableIn (tgt := 70) (off := 42) d_X11_formula_28 (by rw [c2]; decide) (by rw [c2]; decide) (by rw [c2]; decide) rfl ?_
        refine G_aload_n d_X11_formula_70 rfl 0 rfl ?_
        refine G_getI 3 3 (w3_kd hw3_p0268i1) cok3 (by decide) rfl fl_X11_187 d_X11_formula_71 ?_
        exact G_iret rfl rfl rfl d_X11_formula_74 (hK_3 c0 c1 c2)
      have z2 := lv_neT c2 (show (2 : Int32).toInt = 2 from rfl)
      by_cases c2 : l2 = 3
      ·
        refine G_tableIn (tgt := 75) (off := 47) d_X11_formula_28 (by rw [c2]; decide) (by rw [c2]; decide) (by rw [c2]; decide) rfl ?_
        refine G_aload_n d_X11_formula_75 rfl 0 rfl ?_
        refine G_getI 3 8 (w3_kd hw3_p0268i1) cok3 (by decide) rfl fl_X11_190 d_X11_formula_76 ?_
        exact G_iret rfl rfl rfl d_X11_formula_79 (hK_4 c0 c1 c2)
      have z3 := lv_neT c2 (show (3 : Int32).toInt = 3 from rfl)
      have c2 : l2.toInt < 0 ∨ 3 < l2.toInt := by omega
      refine G_tableOut (tgt := 80) d_X11_formula_28 c2 rfl ?_
      refine G_iconst d_X11_formula_80 ic_m1 ?_
      exact G_iret rfl rfl rfl d_X11_formula_81 (hK_5 c0 c1 c2)
    ·
      refine G_iconst d_X11_formula_15 ic_m1 ?_
      exact G_iret rfl rfl rfl d_X11_formula_16 (hK_6 c0 c1)
theorem b_X11_formula_69 {X : cX} {d : Nat} {μ : mM} {K : Option Value → mM → Prop} {v0 : Int32} (hK : K (some (.int v0)) μ) : G X (Rm (d + 1)) mX11_formula 69 [] [.int v0] μ 0 0 K := by
  exact G_iret rfl rfl rfl d_X11_formula_69 hK
theorem d_X11_isSwitch_0 : decode cX11_isSwitch 0 = .ok (.iload_n 0, 1) := by decide +kernel
theorem d_X11_isSwitch_1 : decode cX11_isSwitch 1 = .ok (.ifCond .eq 8, 3) := by decide +kernel
theorem d_X11_isSwitch_4 : decode cX11_isSwitch 4 = .ok (.iload_n 0, 1) := by decide +kernel
theorem d_X11_isSwitch_5 : decode cX11_isSwitch 5 = .ok (.iconst 1, 1) := by decide +kernel
theorem d_X11_isSwitch_6 : decode cX11_isSwitch 6 = .ok (.if_icmp .ne 7, 3) := by decide +kernel
theorem d_X11_isSwitch_9 : decode cX11_isSwitch 9 = .ok (.iconst 1, 1) := by decide +kernel
theorem d_X11_isSwitch_10 : decode cX11_isSwitch 10 = .ok (.goto 4, 3) := by decide +kernel
theorem d_X11_isSwitch_13 : decode cX11_isSwitch 13 = .ok (.iconst 0, 1) := by decide +kernel
theorem d_X11_isSwitch_14 : decode cX11_isSwitch 14 = .ok (.ireturn, 1) := by decide +kernel
theorem b_X11_isSwitch_0 {X : cX} {d : Nat} {μ : mM} {K : Option Value → mM → Prop} {l0 : Int32} (hK : l0 = 0 → K (some (.int 1)) μ) (hK_2 : ¬ l0 = 0 → ¬ l0 = (1 : Int32) → K (some (.int 0)) μ) (hK_3 : ¬ l0 = 0 → l0 = (1 : Int32) → K (some (.int 1)) μ) : G X (Rm d) mX11_isSwitch 0 [(0, .int l0)] [] μ 0 0 K := by
  refine G_iload_n d_X11_isSwitch_0 rfl 0 rfl ?_
  refine G_if_eq (tgt := 9) d_X11_isSwitch_1 rfl (fun c0 => ?_) (fun c0 => ?_)
  ·
    refine G_iconst d_X11_isSwitch_9 ic_1 ?_
    refine G_goto (tgt := 14) d_X11_isSwitch_10 rfl ?_
    exact G_zret rfl rfl rfl rfl d_X11_isSwitch_14 (hK c0)
  ·
    refine G_iload_n d_X11_isSwitch_4 rfl 0 rfl ?_
    refine G_iconst d_X11_isSwitch_5 ic_1 ?_
    refine G_icmp_ne (tgt := 13) d_X11_isSwitch_6 rfl (fun c1 => ?_) (fun c1 => ?_)
    ·
      refine G_iconst d_X11_isSwitch_13 ic_0 ?_
      exact G_zret rfl rfl rfl rfl d_X11_isSwitch_14 (hK_2 c0 c1)
    ·
      refine G_iconst d_X11_isSwitch_9 ic_1 ?_
      refine G_goto (tgt := 14) d_X11_isSwitch_10 rfl ?_
      exact G_zret rfl rfl rfl rfl d_X11_isSwitch_14 (hK_3 c0 c1)
def e_X11_isSwitch (μ : mM) (l0 : Int32) : Int32 := (if l0 = 0 then 1 else (if l0 = (1 : Int32) then 1 else 0))
theorem s_X11_isSwitch {X : cX} {d : Nat} {μ : mM} {K : Option Value → mM → Prop} {l0 : Int32}  (hK : K (some (.int (e_X11_isSwitch μ l0))) μ) : Ct X (Rm d) mX11_isSwitch [.int l0] μ K := Ct_of rfl (Nat.le_of_ble_eq_true rfl) (G_sub [0] rfl (b_X11_isSwitch_0 (fun c0 => by unfold e_X11_isSwitch at hK; rw [if_pos c0] at hK; exact hK) (fun c0 c1 => by unfold e_X11_isSwitch at hK; rw [if_neg c0, if_neg c1] at hK; exact hK) (fun c0 c1 => by unfold e_X11_isSwitch at hK; rw [if_neg c0, if_pos c1] at hK; exact hK)))
theorem d_X11_add_0 : decode cX11_add 0 = .ok (.iload_n 1, 1) := by decide +kernel
theorem d_X11_add_1 : decode cX11_add 1 = .ok (.invokestatic 193, 3) := by decide +kernel
theorem d_X11_add_4 : decode cX11_add 4 = .ok (.ifCond .ne 5, 3) := by decide +kernel
theorem d_X11_add_7 : decode cX11_add 7 = .ok (.iconst (-1), 1) := by decide +kernel
theorem d_X11_add_8 : decode cX11_add 8 = .ok (.ireturn, 1) := by decide +kernel
theorem d_X11_add_9 : decode cX11_add 9 = .ok (.aload_n 0, 1) := by decide +kernel
theorem d_X11_add_10 : decode cX11_add 10 = .ok (.getfield 26, 3) := by decide +kernel
theorem d_X11_add_13 : decode cX11_add 13 = .ok (.getfield 114, 3) := by decide +kernel
theorem d_X11_add_16 : decode cX11_add 16 = .ok (.invokevirtual 196, 3) := by decide +kernel
theorem d_X11_add_19 : decode cX11_add 19 = .ok (.ifCond .eq 6, 3) := by decide +kernel
theorem d_X11_add_22 : decode cX11_add 22 = .ok (.bipush (-3), 2) := by decide +kernel
theorem d_X11_add_24 : decode cX11_add 24 = .ok (.ireturn, 1) := by decide +kernel
theorem d_X11_add_25 : decode cX11_add 25 = .ok (.aload_n 0, 1) := by decide +kernel
theorem d_X11_add_26 : decode cX11_add 26 = .ok (.getfield 26, 3) := by decide +kernel
theorem d_X11_add_29 : decode cX11_add 29 = .ok (.getfield 114, 3) := by decide +kernel
theorem d_X11_add_32 : decode cX11_add 32 = .ok (.iload_n 1, 1) := by decide +kernel
theorem d_X11_add_33 : decode cX11_add 33 = .ok (.iconst 1, 1) := by decide +kernel
theorem d_X11_add_34 : decode cX11_add 34 = .ok (.if_icmp .ne 7, 3) := by decide +kernel
theorem d_X11_add_37 : decode cX11_add 37 = .ok (.iconst 1, 1) := by decide +kernel
theorem d_X11_add_38 : decode cX11_add 38 = .ok (.goto 4, 3) := by decide +kernel
theorem d_X11_add_41 : decode cX11_add 41 = .ok (.iconst 0, 1) := by decide +kernel
theorem d_X11_add_42 : decode cX11_add 42 = .ok (.invokevirtual 199, 3) := by decide +kernel
theorem d_X11_add_45 : decode cX11_add 45 = .ok (.aload_n 0, 1) := by decide +kernel
theorem d_X11_add_46 : decode cX11_add 46 = .ok (.getfield 26, 3) := by decide +kernel
theorem d_X11_add_49 : decode cX11_add 49 = .ok (.getfield 114, 3) := by decide +kernel
theorem d_X11_add_52 : decode cX11_add 52 = .ok (.getfield 117, 3) := by decide +kernel
theorem d_X11_add_55 : decode cX11_add 55 = .ok (.ireturn, 1) := by decide +kernel
theorem b_X11_add_0 {X : cX} {d : Nat} {μ : mM} {K : Option Value → mM → Prop} {r0 : Nat} {l1 : Int32} {p0 : Nat} (hw11_r0 : WF11 μ r0) (hr_p0 : rv μ r0 2 = some p0) (hw10_p0 : WF10 μ p0) (hw5_p01 : WF5 μ (p0 + 1)) (h : ¬ (e_X11_isSwitch μ l1) = 0 → (e_X5_isFull μ (p0 + 1)) = 0 → ¬ l1 = (1 : Int32) → G X (Rm (d + 1)) mX11_add 42 [(0, .ref r0)] [.int 0, .ref (p0 + 1)] μ 0 0 K) (h_2 : ¬ (e_X11_isSwitch μ l1) = 0 → (e_X5_isFull μ (p0 + 1)) = 0 → l1 = (1 : Int32) → G X (Rm (d + 1)) mX11_add 42 [(0, .ref r0)] [.int 1, .ref (p0 + 1)] μ 0 0 K) (hK : ¬ (e_X11_isSwitch μ l1) = 0 → ¬ (e_X5_isFull μ (p0 + 1)) = 0 → K (some (.int (-3))) μ) (hK_2 : (e_X11_isSwitch μ l1) = 0 → K (some (.int (-1))) μ) : G X (Rm (d + 1)) mX11_add 0 [(0, .ref r0), (1, .int l1)] [] μ 0 0 K := by
  refine G_iload_n d_X11_add_0 rfl 1 rfl ?_
  refine G_callS (M' := mX11_isSwitch) (R' := (Rm d)) (S := []) [.int l1] ok_X11_isSwitch ml_X11_193 pn_X11_isSwitch (ru_Rm (by decide)) (Nat.le_of_ble_eq_true rfl) d_X11_add_1 (s_X11_isSwitch (μ := μ)   ?_)
  show G X (Rm (d + 1)) mX11_add 4 [(0, .ref r0), (1, .int l1)] [.int (e_X11_isSwitch μ l1)] μ 0 0 K
  refine G_if_ne (tgt := 9) d_X11_add_4 rfl (fun c0 => ?_) (fun c0 => ?_)
  ·
    refine G_aload_n d_X11_add_9 rfl 0 rfl ?_
    refine G_getR (r := p0) 11 2 (w11_kd hw11_r0) hr_p0 cok11 (by decide) rfl fl_X11_26 d_X11_add_10 ?_
    refine G_getR (r := p0 + 1) 10 0 (w10_kd hw10_p0) (w10_f0 hw10_p0) cok10 (by decide) rfl fl_X11_114 d_X11_add_13 ?_
    refine G_callV (M' := mX5_isFull) (R' := (Rm d)) (S := []) [] 5 (w5_kd hw5_p01) cok5 rfl ok_X5_isFull ml_X11_196 pn_X5_isFull (ru_Rm (by decide)) (Nat.le_of_ble_eq_true rfl) d_X11_add_16 (s_X5_isFull (μ := μ)  hw5_p01 ?_)
    show G X (Rm (d + 1)) mX11_add 19 [(0, .ref r0), (1, .int l1)] [.int (e_X5_isFull μ (p0 + 1))] μ 0 0 K
    refine G_if_eq (tgt := 25) d_X11_add_19 rfl (fun c1 => ?_) (fun c1 => ?_)
    ·
      refine G_aload_n d_X11_add_25 rfl 0 rfl ?_
      refine G_getR (r := p0) 11 2 (w11_kd hw11_r0) hr_p0 cok11 (by decide) rfl fl_X11_26 d_X11_add_26 ?_
      refine G_getR (r := p0 + 1) 10 0 (w10_kd hw10_p0) (w10_f0 hw10_p0) cok10 (by decide) rfl fl_X11_114 d_X11_add_29 ?_
      refine G_iload_n d_X11_add_32 rfl 1 rfl ?_
      refine G_iconst d_X11_add_33 ic_1 ?_
      refine G_icmp_ne (tgt := 41) d_X11_add_34 rfl (fun c2 => ?_) (fun c2 => ?_)
      ·
        refine G_iconst d_X11_add_41 ic_0 ?_
        refine G_sub (L' := [(0, .ref r0)]) [0] rfl ?_
        exact (h c0 c1 c2)
      ·
        refine G_iconst d_X11_add_37 ic_1 ?_
        refine G_goto (tgt := 42) d_X11_add_38 rfl ?_
        refine G_sub (L' := [(0, .ref r0)]) [0] rfl ?_
        exact (h_2 c0 c1 c2)
    ·
      refine G_bipush d_X11_add_22 bp_m3 ?_
      exact G_iret rfl rfl rfl d_X11_add_24 (hK c0 c1)
  ·
    refine G_iconst d_X11_add_7 ic_m1 ?_
    exact G_iret rfl rfl rfl d_X11_add_8 (hK_2 c0)
theorem b_X11_add_42 {X : cX} {d : Nat} {μ : mM} {K : Option Value → mM → Prop} {r0 : Nat} {q0 : Nat} {v1 : Int32} (hw5_q0 : WF5 μ q0) (hc_append : Ct X (Rm d) mX5_append [.ref q0, .int v1] μ (fun r μ2 => G X (Rm (d + 1)) mX11_add 45 [(0, .ref r0)] (r.toList ++ []) μ2 0 0 K)) : G X (Rm (d + 1)) mX11_add 42 [(0, .ref r0)] [.int v1, .ref q0] μ 0 0 K := by
  refine G_callV (M' := mX5_append) (R' := (Rm d)) (S := []) [.int v1] 5 (w5_kd hw5_q0) cok5 rfl ok_X5_append ml_X11_199 pn_X5_append (ru_Rm (by decide)) (Nat.le_of_ble_eq_true rfl) d_X11_add_42 ?_
  exact hc_append
theorem b_X11_add_45 {X : cX} {d : Nat} {μ : mM} {K : Option Value → mM → Prop} {r0 : Nat} {p0 : Nat} (hw11_r0 : WF11 μ r0) (hr_p0 : rv μ r0 2 = some p0) (hw10_p0 : WF10 μ p0) (hw5_p01 : WF5 μ (p0 + 1)) (hK : K (some (.int (iv μ (p0 + 1) 0))) μ) : G X (Rm (d + 1)) mX11_add 45 [(0, .ref r0)] [] μ 0 0 K := by
  refine G_aload_n d_X11_add_45 rfl 0 rfl ?_
  refine G_getR (r := p0) 11 2 (w11_kd hw11_r0) hr_p0 cok11 (by decide) rfl fl_X11_26 d_X11_add_46 ?_
  refine G_getR (r := p0 + 1) 10 0 (w10_kd hw10_p0) (w10_f0 hw10_p0) cok10 (by decide) rfl fl_X11_114 d_X11_add_49 ?_
  refine G_getI 5 0 (w5_kd hw5_p01) cok5 (by decide) rfl fl_X11_117 d_X11_add_52 ?_
  exact G_iret rfl rfl rfl d_X11_add_55 hK
theorem d_X11_lose_0 : decode cX11_lose 0 = .ok (.aload_n 0, 1) := by decide +kernel
theorem d_X11_lose_1 : decode cX11_lose 1 = .ok (.getfield 26, 3) := by decide +kernel
theorem d_X11_lose_4 : decode cX11_lose 4 = .ok (.getfield 114, 3) := by decide +kernel
theorem d_X11_lose_7 : decode cX11_lose 7 = .ok (.iload_n 1, 1) := by decide +kernel
theorem d_X11_lose_8 : decode cX11_lose 8 = .ok (.invokevirtual 138, 3) := by decide +kernel
theorem d_X11_lose_11 : decode cX11_lose 11 = .ok (.ifCond .ne 5, 3) := by decide +kernel
theorem d_X11_lose_14 : decode cX11_lose 14 = .ok (.iconst (-1), 1) := by decide +kernel
theorem d_X11_lose_15 : decode cX11_lose 15 = .ok (.ireturn, 1) := by decide +kernel
theorem d_X11_lose_16 : decode cX11_lose 16 = .ok (.aload_n 0, 1) := by decide +kernel
theorem d_X11_lose_17 : decode cX11_lose 17 = .ok (.getfield 26, 3) := by decide +kernel
theorem d_X11_lose_20 : decode cX11_lose 20 = .ok (.getfield 114, 3) := by decide +kernel
theorem d_X11_lose_23 : decode cX11_lose 23 = .ok (.iload_n 1, 1) := by decide +kernel
theorem d_X11_lose_24 : decode cX11_lose 24 = .ok (.invokevirtual 203, 3) := by decide +kernel
theorem d_X11_lose_27 : decode cX11_lose 27 = .ok (.aload_n 0, 1) := by decide +kernel
theorem d_X11_lose_28 : decode cX11_lose 28 = .ok (.getfield 26, 3) := by decide +kernel
theorem d_X11_lose_31 : decode cX11_lose 31 = .ok (.getfield 114, 3) := by decide +kernel
theorem d_X11_lose_34 : decode cX11_lose 34 = .ok (.getfield 117, 3) := by decide +kernel
theorem d_X11_lose_37 : decode cX11_lose 37 = .ok (.ireturn, 1) := by decide +kernel
theorem b_X11_lose_0 {X : cX} {d : Nat} {μ : mM} {K : Option Value → mM → Prop} {r0 : Nat} {l1 : Int32} {p0 : Nat} (hw11_r0 : WF11 μ r0) (hr_p0 : rv μ r0 2 = some p0) (hw10_p0 : WF10 μ p0) (hw5_p01 : WF5 μ (p0 + 1)) (hc_drop : ¬ (e_X5_has μ (p0 + 1) l1) = 0 → Ct X (Rm (d + 2)) mX5_drop [.ref (p0 + 1), .int l1] μ (fun r μ2 => G X (Rm (d + 3)) mX11_lose 27 [(0, .ref r0)] (r.toList ++ []) μ2 0 0 K)) (hK : (e_X5_has μ (p0 + 1) l1) = 0 → K (some (.int (-1))) μ) : G X (Rm (d + 3)) mX11_lose 0 [(0, .ref r0), (1, .int l1)] [] μ 0 0 K := by
  refine G_aload_n d_X11_lose_0 rfl 0 rfl ?_
  refine G_getR (r := p0) 11 2 (w11_kd hw11_r0) hr_p0 cok11 (by decide) rfl fl_X11_26 d_X11_lose_1 ?_
  refine G_getR (r := p0 + 1) 10 0 (w10_kd hw10_p0) (w10_f0 hw10_p0) cok10 (by decide) rfl fl_X11_114 d_X11_lose_4 ?_
  refine G_iload_n d_X11_lose_7 rfl 1 rfl ?_
  refine G_callV (M' := mX5_has) (R' := (Rm (d + 2))) (S := []) [.int l1] 5 (w5_kd hw5_p01) cok5 rfl ok_X5_has ml_X11_138 pn_X5_has (ru_Rm (by decide)) (Nat.le_of_ble_eq_true rfl) d_X11_lose_8 (s_X5_has (μ := μ)  hw5_p01 ?_)
  show G X (Rm (d + 3)) mX11_lose 11 [(0, .ref r0), (1, .int l1)] [.int (e_X5_has μ (p0 + 1) l1)] μ 0 0 K
  refine G_if_ne (tgt := 16) d_X11_lose_11 rfl (fun c0 => ?_) (fun c0 => ?_)
  ·
    refine G_aload_n d_X11_lose_16 rfl 0 rfl ?_
    refine G_getR (r := p0) 11 2 (w11_kd hw11_r0) hr_p0 cok11 (by decide) rfl fl_X11_26 d_X11_lose_17 ?_
    refine G_getR (r := p0 + 1) 10 0 (w10_kd hw10_p0) (w10_f0 hw10_p0) cok10 (by decide) rfl fl_X11_114 d_X11_lose_20 ?_
    refine G_iload_n d_X11_lose_23 rfl 1 rfl ?_
    refine G_sub (L' := [(0, .ref r0)]) [0] rfl ?_
    refine G_callV (M' := mX5_drop) (R' := (Rm (d + 2))) (S := []) [.int l1] 5 (w5_kd hw5_p01) cok5 rfl ok_X5_drop ml_X11_203 pn_X5_drop (ru_Rm (by decide)) (Nat.le_of_ble_eq_true rfl) d_X11_lose_24 ?_
    exact (hc_drop c0)
  ·
    refine G_iconst d_X11_lose_14 ic_m1 ?_
    exact G_iret rfl rfl rfl d_X11_lose_15 (hK c0)
theorem b_X11_lose_27 {X : cX} {d : Nat} {μ : mM} {K : Option Value → mM → Prop} {r0 : Nat} {p0 : Nat} (hw11_r0 : WF11 μ r0) (hr_p0 : rv μ r0 2 = some p0) (hw10_p0 : WF10 μ p0) (hw5_p01 : WF5 μ (p0 + 1)) (hK : K (some (.int (iv μ (p0 + 1) 0))) μ) : G X (Rm (d + 3)) mX11_lose 27 [(0, .ref r0)] [] μ 0 0 K := by
  refine G_aload_n d_X11_lose_27 rfl 0 rfl ?_
  refine G_getR (r := p0) 11 2 (w11_kd hw11_r0) hr_p0 cok11 (by decide) rfl fl_X11_26 d_X11_lose_28 ?_
  refine G_getR (r := p0 + 1) 10 0 (w10_kd hw10_p0) (w10_f0 hw10_p0) cok10 (by decide) rfl fl_X11_114 d_X11_lose_31 ?_
  refine G_getI 5 0 (w5_kd hw5_p01) cok5 (by decide) rfl fl_X11_117 d_X11_lose_34 ?_
  exact G_iret rfl rfl rfl d_X11_lose_37 hK
theorem d_X11_many_0 : decode cX11_many 0 = .ok (.aload_n 0, 1) := by decide +kernel
theorem d_X11_many_1 : decode cX11_many 1 = .ok (.getfield 26, 3) := by decide +kernel
theorem d_X11_many_4 : decode cX11_many 4 = .ok (.getfield 114, 3) := by decide +kernel
theorem d_X11_many_7 : decode cX11_many 7 = .ok (.iload_n 1, 1) := by decide +kernel
theorem d_X11_many_8 : decode cX11_many 8 = .ok (.invokevirtual 138, 3) := by decide +kernel
theorem d_X11_many_11 : decode cX11_many 11 = .ok (.ifCond .eq 10, 3) := by decide +kernel
theorem d_X11_many_14 : decode cX11_many 14 = .ok (.iload_n 2, 1) := by decide +kernel
theorem d_X11_many_15 : decode cX11_many 15 = .ok (.invokestatic 193, 3) := by decide +kernel
theorem d_X11_many_18 : decode cX11_many 18 = .ok (.ifCond .ne 5, 3) := by decide +kernel
theorem d_X11_many_21 : decode cX11_many 21 = .ok (.iconst (-1), 1) := by decide +kernel
theorem d_X11_many_22 : decode cX11_many 22 = .ok (.ireturn, 1) := by decide +kernel
theorem d_X11_many_23 : decode cX11_many 23 = .ok (.aload_n 0, 1) := by decide +kernel
theorem d_X11_many_24 : decode cX11_many 24 = .ok (.getfield 26, 3) := by decide +kernel
theorem d_X11_many_27 : decode cX11_many 27 = .ok (.getfield 114, 3) := by decide +kernel
theorem d_X11_many_30 : decode cX11_many 30 = .ok (.getfield 142, 3) := by decide +kernel
theorem d_X11_many_33 : decode cX11_many 33 = .ok (.iload_n 1, 1) := by decide +kernel
theorem d_X11_many_34 : decode cX11_many 34 = .ok (.baload, 1) := by decide +kernel
theorem d_X11_many_35 : decode cX11_many 35 = .ok (.ifCond .eq 7, 3) := by decide +kernel
theorem d_X11_many_38 : decode cX11_many 38 = .ok (.iconst 1, 1) := by decide +kernel
theorem d_X11_many_39 : decode cX11_many 39 = .ok (.goto 4, 3) := by decide +kernel
theorem d_X11_many_42 : decode cX11_many 42 = .ok (.iconst 0, 1) := by decide +kernel
theorem d_X11_many_43 : decode cX11_many 43 = .ok (.istore_n 3, 1) := by decide +kernel
theorem d_X11_many_44 : decode cX11_many 44 = .ok (.aload_n 0, 1) := by decide +kernel
theorem d_X11_many_45 : decode cX11_many 45 = .ok (.getfield 26, 3) := by decide +kernel
theorem d_X11_many_48 : decode cX11_many 48 = .ok (.getfield 114, 3) := by decide +kernel
theorem d_X11_many_51 : decode cX11_many 51 = .ok (.getfield 142, 3) := by decide +kernel
theorem d_X11_many_54 : decode cX11_many 54 = .ok (.iload_n 1, 1) := by decide +kernel
theorem d_X11_many_55 : decode cX11_many 55 = .ok (.iload_n 2, 1) := by decide +kernel
theorem d_X11_many_56 : decode cX11_many 56 = .ok (.iconst 1, 1) := by decide +kernel
theorem d_X11_many_57 : decode cX11_many 57 = .ok (.if_icmp .ne 7, 3) := by decide +kernel
theorem d_X11_many_60 : decode cX11_many 60 = .ok (.iconst 1, 1) := by decide +kernel
theorem d_X11_many_61 : decode cX11_many 61 = .ok (.goto 4, 3) := by decide +kernel
theorem d_X11_many_64 : decode cX11_many 64 = .ok (.iconst 0, 1) := by decide +kernel
theorem d_X11_many_65 : decode cX11_many 65 = .ok (.bastore, 1) := by decide +kernel
theorem d_X11_many_66 : decode cX11_many 66 = .ok (.iload_n 3, 1) := by decide +kernel
theorem d_X11_many_67 : decode cX11_many 67 = .ok (.ireturn, 1) := by decide +kernel
theorem b_X11_many_0 {X : cX} {d : Nat} {μ : mM} {K : Option Value → mM → Prop} {r0 : Nat} {i1 : Nat} {l2 : Int32} {p0 : Nat} (hw11_r0 : WF11 μ r0) (hr_p0 : rv μ r0 2 = some p0) (hw10_p0 : WF10 μ p0) (hw5_p01 : WF5 μ (p0 + 1)) (hK : (e_X5_has μ (p0 + 1) (nI i1)) = 0 → K (some (.int (-1))) μ) (hb : ¬ (e_X5_has μ (p0 + 1) (nI i1)) = 0 → ¬ (e_X11_isSwitch μ l2) = 0 → i1 < 6) (h : ¬ (e_X5_has μ (p0 + 1) (nI i1)) = 0 → ¬ (e_X11_isSwitch μ l2) = 0 → (iv μ (p0 + 1 + 1) i1) = 0 → G X (Rm (d + 1)) mX11_many 43 [(0, .ref r0), (1, .int (nI i1)), (2, .int l2)] [.int 0] μ 0 0 K) (h_2 : ¬ (e_X5_has μ (p0 + 1) (nI i1)) = 0 → ¬ (e_X11_isSwitch μ l2) = 0 → ¬ (iv μ (p0 + 1 + 1) i1) = 0 → G X (Rm (d + 1)) mX11_many 43 [(0, .ref r0), (1, .int (nI i1)), (2, .int l2)] [.int 1] μ 0 0 K) (hK_2 : ¬ (e_X5_has μ (p0 + 1) (nI i1)) = 0 → (e_X11_isSwitch μ l2) = 0 → K (some (.int (-1))) μ) : G X (Rm (d + 1)) mX11_many 0 [(0, .ref r0), (1, .int (nI i1)), (2, .int l2)] [] μ 0 0 K := by
  refine G_aload_n d_X11_many_0 rfl 0 rfl ?_
  refine G_getR (r := p0) 11 2 (w11_kd hw11_r0) hr_p0 cok11 (by decide) rfl fl_X11_26 d_X11_many_1 ?_
  refine G_getR (r := p0 + 1) 10 0 (w10_kd hw10_p0) (w10_f0 hw10_p0) cok10 (by decide) rfl fl_X11_114 d_X11_many_4 ?_
  refine G_iload_n d_X11_many_7 rfl 1 rfl ?_
  refine G_callV (M' := mX5_has) (R' := (Rm d)) (S := []) [.int (nI i1)] 5 (w5_kd hw5_p01) cok5 rfl ok_X5_has ml_X11_138 pn_X5_has (ru_Rm (by decide)) (Nat.le_of_ble_eq_true rfl) d_X11_many_8 (s_X5_has (μ := μ)  hw5_p01 ?_)
  show G X (Rm (d + 1)) mX11_many 11 [(0, .ref r0), (1, .int (nI i1)), (2, .int l2)] [.int (e_X5_has μ (p0 + 1) (nI i1))] μ 0 0 K
  refine G_if_eq (tgt := 21) d_X11_many_11 rfl (fun c0 => ?_) (fun c0 => ?_)
  ·
    refine G_iconst d_X11_many_21 ic_m1 ?_
    exact G_iret rfl rfl rfl d_X11_many_22 (hK c0)
  ·
    refine G_iload_n d_X11_many_14 rfl 2 rfl ?_
    refine G_callS (M' := mX11_isSwitch) (R' := (Rm d)) (S := []) [.int l2] ok_X11_isSwitch ml_X11_193 pn_X11_isSwitch (ru_Rm (by decide)) (Nat.le_of_ble_eq_true rfl) d_X11_many_15 (s_X11_isSwitch (μ := μ)   ?_)
    show G X (Rm (d + 1)) mX11_many 18 [(0, .ref r0), (1, .int (nI i1)), (2, .int l2)] [.int (e_X11_isSwitch μ l2)] μ 0 0 K
    refine G_if_ne (tgt := 23) d_X11_many_18 rfl (fun c1 => ?_) (fun c1 => ?_)
    ·
      refine G_aload_n d_X11_many_23 rfl 0 rfl ?_
      refine G_getR (r := p0) 11 2 (w11_kd hw11_r0) hr_p0 cok11 (by decide) rfl fl_X11_26 d_X11_many_24 ?_
      refine G_getR (r := p0 + 1) 10 0 (w10_kd hw10_p0) (w10_f0 hw10_p0) cok10 (by decide) rfl fl_X11_114 d_X11_many_27 ?_
      refine G_getR (r := p0 + 1 + 1) 5 1 (w5_kd hw5_p01) (w5_f1 hw5_p01) cok5 (by decide) rfl fl_X11_142 d_X11_many_30 ?_
      refine G_iload_n d_X11_many_33 rfl 1 rfl ?_
      refine G_zald i1 (w5_k1 hw5_p01) rfl (hb c0 c1) d_X11_many_34 ?_
      refine G_if_eq (tgt := 42) d_X11_many_35 rfl (fun c2 => ?_) (fun c2 => ?_)
      ·
        refine G_iconst d_X11_many_42 ic_0 ?_
        exact (h c0 c1 c2)
      ·
        refine G_iconst d_X11_many_38 ic_1 ?_
        refine G_goto (tgt := 43) d_X11_many_39 rfl ?_
        exact (h_2 c0 c1 c2)
    ·
      refine G_iconst d_X11_many_21 ic_m1 ?_
      exact G_iret rfl rfl rfl d_X11_many_22 (hK_2 c0 c1)
theorem b_X11_many_43 {X : cX} {d : Nat} {μ : mM} {K : Option Value → mM → Prop} {r0 : Nat} {i1 : Nat} {l2 : Int32} {v0 : Int32} {p0 : Nat} (hw11_r0 : WF11 μ r0) (hr_p0 : rv μ r0 2 = some p0) (hw10_p0 : WF10 μ p0) (hw5_p01 : WF5 μ (p0 + 1)) (hb : ¬ l2 = (1 : Int32) → i1 < 6) (hK : ¬ l2 = (1 : Int32) → K (some (.int v0)) (wi μ (p0 + 1 + 1) i1 0)) (hb_2 : l2 = (1 : Int32) → i1 < 6) (hK_2 : l2 = (1 : Int32) → K (some (.int v0)) (wi μ (p0 + 1 + 1) i1 1)) : G X (Rm (d + 1)) mX11_many 43 [(0, .ref r0), (1, .int (nI i1)), (2, .int l2)] [.int v0] μ 0 0 K := by
  refine G_istore_n (L' := [(3, .int v0), (0, .ref r0), (1, .int (nI i1)), (2, .int l2)]) d_X11_many_43 rfl (by decide) rfl ?_
  refine G_aload_n d_X11_many_44 rfl 1 rfl ?_
  refine G_getR (r := p0) 11 2 (w11_kd hw11_r0) hr_p0 cok11 (by decide) rfl fl_X11_26 d_X11_many_45 ?_
  refine G_getR (r := p0 + 1) 10 0 (w10_kd hw10_p0) (w10_f0 hw10_p0) cok10 (by decide) rfl fl_X11_114 d_X11_many_48 ?_
  refine G_getR (r := p0 + 1 + 1) 5 1 (w5_kd hw5_p01) (w5_f1 hw5_p01) cok5 (by decide) rfl fl_X11_142 d_X11_many_51 ?_
  refine G_iload_n d_X11_many_54 rfl 2 rfl ?_
  refine G_iload_n d_X11_many_55 rfl 3 rfl ?_
  refine G_iconst d_X11_many_56 ic_1 ?_
  refine G_icmp_ne (tgt := 64) d_X11_many_57 rfl (fun c0 => ?_) (fun c0 => ?_)
  ·
    refine G_iconst d_X11_many_64 ic_0 ?_
    refine G_zast (v := 0) i1 (w5_k1 hw5_p01) rfl (hb c0) rfl d_X11_many_65 ?_
    refine G_iload_n d_X11_many_66 rfl 0 rfl ?_
    exact G_iret rfl rfl rfl d_X11_many_67 (hK c0)
  ·
    refine G_iconst d_X11_many_60 ic_1 ?_
    refine G_goto (tgt := 65) d_X11_many_61 rfl ?_
    refine G_zast (v := 1) i1 (w5_k1 hw5_p01) rfl (hb_2 c0) rfl d_X11_many_65 ?_
    refine G_iload_n d_X11_many_66 rfl 0 rfl ?_
    exact G_iret rfl rfl rfl d_X11_many_67 (hK_2 c0)
theorem d_X11_isTruth_0 : decode cX11_isTruth 0 = .ok (.iload_n 0, 1) := by decide +kernel
theorem d_X11_isTruth_1 : decode cX11_isTruth 1 = .ok (.ifCond .lt 12, 3) := by decide +kernel
theorem d_X11_isTruth_4 : decode cX11_isTruth 4 = .ok (.iload_n 0, 1) := by decide +kernel
theorem d_X11_isTruth_5 : decode cX11_isTruth 5 = .ok (.iconst 2, 1) := by decide +kernel
theorem d_X11_isTruth_6 : decode cX11_isTruth 6 = .ok (.if_icmp .gt 7, 3) := by decide +kernel
theorem d_X11_isTruth_9 : decode cX11_isTruth 9 = .ok (.iconst 1, 1) := by decide +kernel
theorem d_X11_isTruth_10 : decode cX11_isTruth 10 = .ok (.goto 4, 3) := by decide +kernel
theorem d_X11_isTruth_13 : decode cX11_isTruth 13 = .ok (.iconst 0, 1) := by decide +kernel
theorem d_X11_isTruth_14 : decode cX11_isTruth 14 = .ok (.ireturn, 1) := by decide +kernel
theorem b_X11_isTruth_0 {X : cX} {d : Nat} {μ : mM} {K : Option Value → mM → Prop} {l0 : Int32} (hK : l0 < 0 → K (some (.int 0)) μ) (hK_2 : ¬ l0 < 0 → (2 : Int32) < l0 → K (some (.int 0)) μ) (hK_3 : ¬ l0 < 0 → ¬ (2 : Int32) < l0 → K (some (.int 1)) μ) : G X (Rm d) mX11_isTruth 0 [(0, .int l0)] [] μ 0 0 K := by
  refine G_iload_n d_X11_isTruth_0 rfl 0 rfl ?_
  refine G_if_lt (tgt := 13) d_X11_isTruth_1 rfl (fun c0 => ?_) (fun c0 => ?_)
  ·
    refine G_iconst d_X11_isTruth_13 ic_0 ?_
    exact G_zret rfl rfl rfl rfl d_X11_isTruth_14 (hK c0)
  ·
    refine G_iload_n d_X11_isTruth_4 rfl 0 rfl ?_
    refine G_iconst d_X11_isTruth_5 ic_2 ?_
    refine G_icmp_gt (tgt := 13) d_X11_isTruth_6 rfl (fun c1 => ?_) (fun c1 => ?_)
    ·
      refine G_iconst d_X11_isTruth_13 ic_0 ?_
      exact G_zret rfl rfl rfl rfl d_X11_isTruth_14 (hK_2 c0 c1)
    ·
      refine G_iconst d_X11_isTruth_9 ic_1 ?_
      refine G_goto (tgt := 14) d_X11_isTruth_10 rfl ?_
      exact G_zret rfl rfl rfl rfl d_X11_isTruth_14 (hK_3 c0 c1)
def e_X11_isTruth (μ : mM) (l0 : Int32) : Int32 := (if l0 < 0 then 0 else (if (2 : Int32) < l0 then 0 else 1))
theorem s_X11_isTruth {X : cX} {d : Nat} {μ : mM} {K : Option Value → mM → Prop} {l0 : Int32}  (hK : K (some (.int (e_X11_isTruth μ l0))) μ) : Ct X (Rm d) mX11_isTruth [.int l0] μ K := Ct_of rfl (Nat.le_of_ble_eq_true rfl) (G_sub [0] rfl (b_X11_isTruth_0 (fun c0 => by unfold e_X11_isTruth at hK; rw [if_pos c0] at hK; exact hK) (fun c0 c1 => by unfold e_X11_isTruth at hK; rw [if_neg c0, if_pos c1] at hK; exact hK) (fun c0 c1 => by unfold e_X11_isTruth at hK; rw [if_neg c0, if_neg c1] at hK; exact hK)))
theorem d_X11_place_0 : decode cX11_place 0 = .ok (.iload_n 1, 1) := by decide +kernel
theorem d_X11_place_1 : decode cX11_place 1 = .ok (.invokestatic 165, 3) := by decide +kernel
theorem d_X11_place_4 : decode cX11_place 4 = .ok (.ifCond .eq 24, 3) := by decide +kernel
theorem d_X11_place_7 : decode cX11_place 7 = .ok (.aload_n 0, 1) := by decide +kernel
theorem d_X11_place_8 : decode cX11_place 8 = .ok (.getfield 26, 3) := by decide +kernel
theorem d_X11_place_11 : decode cX11_place 11 = .ok (.getfield 114, 3) := by decide +kernel
theorem d_X11_place_14 : decode cX11_place 14 = .ok (.iload_n 2, 1) := by decide +kernel
theorem d_X11_place_15 : decode cX11_place 15 = .ok (.invokevirtual 138, 3) := by decide +kernel
theorem d_X11_place_18 : decode cX11_place 18 = .ok (.ifCond .eq 10, 3) := by decide +kernel
theorem d_X11_place_21 : decode cX11_place 21 = .ok (.iload_n 3, 1) := by decide +kernel
theorem d_X11_place_22 : decode cX11_place 22 = .ok (.invokestatic 207, 3) := by decide +kernel
theorem d_X11_place_25 : decode cX11_place 25 = .ok (.ifCond .ne 5, 3) := by decide +kernel
theorem d_X11_place_28 : decode cX11_place 28 = .ok (.iconst (-1), 1) := by decide +kernel
theorem d_X11_place_29 : decode cX11_place 29 = .ok (.ireturn, 1) := by decide +kernel
theorem d_X11_place_30 : decode cX11_place 30 = .ok (.aload_n 0, 1) := by decide +kernel
theorem d_X11_place_31 : decode cX11_place 31 = .ok (.getfield 26, 3) := by decide +kernel
theorem d_X11_place_34 : decode cX11_place 34 = .ok (.getfield 114, 3) := by decide +kernel
theorem d_X11_place_37 : decode cX11_place 37 = .ok (.getfield 145, 3) := by decide +kernel
theorem d_X11_place_40 : decode cX11_place 40 = .ok (.iload_n 1, 1) := by decide +kernel
theorem d_X11_place_41 : decode cX11_place 41 = .ok (.aaload, 1) := by decide +kernel
theorem d_X11_place_42 : decode cX11_place 42 = .ok (.iload_n 2, 1) := by decide +kernel
theorem d_X11_place_43 : decode cX11_place 43 = .ok (.iaload, 1) := by decide +kernel
theorem d_X11_place_44 : decode cX11_place 44 = .ok (.istore 4, 2) := by decide +kernel
theorem d_X11_place_46 : decode cX11_place 46 = .ok (.aload_n 0, 1) := by decide +kernel
theorem d_X11_place_47 : decode cX11_place 47 = .ok (.getfield 26, 3) := by decide +kernel
theorem d_X11_place_50 : decode cX11_place 50 = .ok (.getfield 114, 3) := by decide +kernel
theorem d_X11_place_53 : decode cX11_place 53 = .ok (.getfield 145, 3) := by decide +kernel
theorem d_X11_place_56 : decode cX11_place 56 = .ok (.iload_n 1, 1) := by decide +kernel
theorem d_X11_place_57 : decode cX11_place 57 = .ok (.aaload, 1) := by decide +kernel
theorem d_X11_place_58 : decode cX11_place 58 = .ok (.iload_n 2, 1) := by decide +kernel
theorem d_X11_place_59 : decode cX11_place 59 = .ok (.iload_n 3, 1) := by decide +kernel
theorem d_X11_place_60 : decode cX11_place 60 = .ok (.iastore, 1) := by decide +kernel
theorem d_X11_place_61 : decode cX11_place 61 = .ok (.iload 4, 2) := by decide +kernel
theorem d_X11_place_63 : decode cX11_place 63 = .ok (.ireturn, 1) := by decide +kernel
theorem b_X11_place_0 {X : cX} {d : Nat} {μ : mM} {K : Option Value → mM → Prop} {r0 : Nat} {i1 : Nat} {i2 : Nat} {l3 : Int32} {p0 : Nat} (hK : (e_X11_isVariable μ (nI i1)) = 0 → K (some (.int (-1))) μ) (hw11_r0 : WF11 μ r0) (hr_p0 : rv μ r0 2 = some p0) (hw10_p0 : WF10 μ p0) (hw5_p01 : WF5 μ (p0 + 1)) (hK_2 : ¬ (e_X11_isVariable μ (nI i1)) = 0 → (e_X5_has μ (p0 + 1) (nI i2)) = 0 → K (some (.int (-1))) μ) (hb : ¬ (e_X11_isVariable μ (nI i1)) = 0 → ¬ (e_X5_has μ (p0 + 1) (nI i2)) = 0 → ¬ (e_X11_isTruth μ l3) = 0 → i1 < 3) (hb_2 : ¬ (e_X11_isVariable μ (nI i1)) = 0 → ¬ (e_X5_has μ (p0 + 1) (nI i2)) = 0 → ¬ (e_X11_isTruth μ l3) = 0 → i2 < 6) (hK_3 : ¬ (e_X11_isVariable μ (nI i1)) = 0 → ¬ (e_X5_has μ (p0 + 1) (nI i2)) = 0 → ¬ (e_X11_isTruth μ l3) = 0 → K (some (.int (iv μ (p0 + 1 + 3 + i1) i2))) (wi μ (p0 + 1 + 3 + i1) i2 l3)) (hK_4 : ¬ (e_X11_isVariable μ (nI i1)) = 0 → ¬ (e_X5_has μ (p0 + 1) (nI i2)) = 0 → (e_X11_isTruth μ l3) = 0 → K (some (.int (-1))) μ) : G X (Rm (d + 1)) mX11_place 0 [(0, .ref r0), (1, .int (nI i1)), (2, .int (nI i2)), (3, .int l3)] [] μ 0 0 K := by
  refine G_iload_n d_X11_place_0 rfl 1 rfl ?_
  refine G_callS (M' := mX11_isVariable) (R' := (Rm d)) (S := []) [.int (nI i1)] ok_X11_isVariable ml_X11_165 pn_X11_isVariable (ru_Rm (by decide)) (Nat.le_of_ble_eq_true rfl) d_X11_place_1 (s_X11_isVariable (μ := μ)   ?_)
  show G X (Rm (d + 1)) mX11_place 4 [(0, .ref r0), (1, .int (nI i1)), (2, .int (nI i2)), (3, .int l3)] [.int (e_X11_isVariable μ (nI i1))] μ 0 0 K
  refine G_if_eq (tgt := 28) d_X11_place_4 rfl (fun c0 => ?_) (fun c0 => ?_)
  ·
    refine G_iconst d_X11_place_28 ic_m1 ?_
    exact G_iret rfl rfl rfl d_X11_place_29 (hK c0)
  ·
    refine G_aload_n d_X11_place_7 rfl 0 rfl ?_
    refine G_getR (r := p0) 11 2 (w11_kd hw11_r0) hr_p0 cok11 (by decide) rfl fl_X11_26 d_X11_place_8 ?_
    refine G_getR (r := p0 + 1) 10 0 (w10_kd hw10_p0) (w10_f0 hw10_p0) cok10 (by decide) rfl fl_X11_114 d_X11_place_11 ?_
    refine G_iload_n d_X11_place_14 rfl 2 rfl ?_
    refine G_callV (M' := mX5_has) (R' := (Rm d)) (S := []) [.int (nI i2)] 5 (w5_kd hw5_p01) cok5 rfl ok_X5_has ml_X11_138 pn_X5_has (ru_Rm (by decide)) (Nat.le_of_ble_eq_true rfl) d_X11_place_15 (s_X5_has (μ := μ)  hw5_p01 ?_)
    show G X (Rm (d + 1)) mX11_place 18 [(0, .ref r0), (1, .int (nI i1)), (2, .int (nI i2)), (3, .int l3)] [.int (e_X5_has μ (p0 + 1) (nI i2))] μ 0 0 K
    refine G_if_eq (tgt := 28) d_X11_place_18 rfl (fun c1 => ?_) (fun c1 => ?_)
    ·
      refine G_iconst d_X11_place_28 ic_m1 ?_
      exact G_iret rfl rfl rfl d_X11_place_29 (hK_2 c0 c1)
    ·
      refine G_iload_n d_X11_place_21 rfl 3 rfl ?_
      refine G_callS (M' := mX11_isTruth) (R' := (Rm d)) (S := []) [.int l3] ok_X11_isTruth ml_X11_207 pn_X11_isTruth (ru_Rm (by decide)) (Nat.le_of_ble_eq_true rfl) d_X11_place_22 (s_X11_isTruth (μ := μ)   ?_)
      show G X (Rm (d + 1)) mX11_place 25 [(0, .ref r0), (1, .int (nI i1)), (2, .int (nI i2)), (3, .int l3)] [.int (e_X11_isTruth μ l3)] μ 0 0 K
      refine G_if_ne (tgt := 30) d_X11_place_25 rfl (fun c2 => ?_) (fun c2 => ?_)
      ·
        refine G_aload_n d_X11_place_30 rfl 0 rfl ?_
        refine G_getR (r := p0) 11 2 (w11_kd hw11_r0) hr_p0 cok11 (by decide) rfl fl_X11_26 d_X11_place_31 ?_
        refine G_getR (r := p0 + 1) 10 0 (w10_kd hw10_p0) (w10_f0 hw10_p0) cok10 (by decide) rfl fl_X11_114 d_X11_place_34 ?_
        refine G_getR (r := p0 + 1 + 2) 5 2 (w5_kd hw5_p01) (w5_f2 hw5_p01) cok5 (by decide) rfl fl_X11_145 d_X11_place_37 ?_
        refine G_iload_n d_X11_place_40 rfl 1 rfl ?_
        refine G_aaldA (r := p0 + 1 + 3 + i1) i1 (w5_k2 hw5_p01) rfl (hb c0 c1 c2) (w5_r2 hw5_p01 i1 (hb c0 c1 c2)) d_X11_place_41 ?_
        refine G_iload_n d_X11_place_42 rfl 2 rfl ?_
        refine G_iald i2 (w5_q2 hw5_p01 i1 (hb c0 c1 c2)) rfl (hb_2 c0 c1 c2) d_X11_place_43 ?_
        refine G_istore (L' := [(4, .int (iv μ (p0 + 1 + 3 + i1) i2)), (0, .ref r0), (1, .int (nI i1)), (2, .int (nI i2)), (3, .int l3)]) d_X11_place_44 (by decide) rfl ?_
        refine G_aload_n d_X11_place_46 rfl 1 rfl ?_
        refine G_getR (r := p0) 11 2 (w11_kd hw11_r0) hr_p0 cok11 (by decide) rfl fl_X11_26 d_X11_place_47 ?_
        refine G_getR (r := p0 + 1) 10 0 (w10_kd hw10_p0) (w10_f0 hw10_p0) cok10 (by decide) rfl fl_X11_114 d_X11_place_50 ?_
        refine G_getR (r := p0 + 1 + 2) 5 2 (w5_kd hw5_p01) (w5_f2 hw5_p01) cok5 (by decide) rfl fl_X11_145 d_X11_place_53 ?_
        refine G_iload_n d_X11_place_56 rfl 2 rfl ?_
        refine G_aaldA (r := p0 + 1 + 3 + i1) i1 (w5_k2 hw5_p01) rfl (hb c0 c1 c2) (w5_r2 hw5_p01 i1 (hb c0 c1 c2)) d_X11_place_57 ?_
        refine G_iload_n d_X11_place_58 rfl 3 rfl ?_
        refine G_iload_n d_X11_place_59 rfl 4 rfl ?_
        refine G_iast i2 (w5_q2 hw5_p01 i1 (hb c0 c1 c2)) rfl (hb_2 c0 c1 c2) d_X11_place_60 ?_
        refine G_iload d_X11_place_61 0 rfl ?_
        exact G_iret rfl rfl rfl d_X11_place_63 (hK_3 c0 c1 c2)
      ·
        refine G_iconst d_X11_place_28 ic_m1 ?_
        exact G_iret rfl rfl rfl d_X11_place_29 (hK_4 c0 c1 c2)
theorem d_X11_lead_0 : decode cX11_lead 0 = .ok (.aload_n 0, 1) := by decide +kernel
theorem d_X11_lead_1 : decode cX11_lead 1 = .ok (.getfield 26, 3) := by decide +kernel
theorem d_X11_lead_4 : decode cX11_lead 4 = .ok (.getfield 114, 3) := by decide +kernel
theorem d_X11_lead_7 : decode cX11_lead 7 = .ok (.iload_n 1, 1) := by decide +kernel
theorem d_X11_lead_8 : decode cX11_lead 8 = .ok (.invokevirtual 138, 3) := by decide +kernel
theorem d_X11_lead_11 : decode cX11_lead 11 = .ok (.ifCond .eq 24, 3) := by decide +kernel
theorem d_X11_lead_14 : decode cX11_lead 14 = .ok (.aload_n 0, 1) := by decide +kernel
theorem d_X11_lead_15 : decode cX11_lead 15 = .ok (.getfield 26, 3) := by decide +kernel
theorem d_X11_lead_18 : decode cX11_lead 18 = .ok (.getfield 114, 3) := by decide +kernel
theorem d_X11_lead_21 : decode cX11_lead 21 = .ok (.iload_n 2, 1) := by decide +kernel
theorem d_X11_lead_22 : decode cX11_lead 22 = .ok (.invokevirtual 138, 3) := by decide +kernel
theorem d_X11_lead_25 : decode cX11_lead 25 = .ok (.ifCond .eq 10, 3) := by decide +kernel
theorem d_X11_lead_28 : decode cX11_lead 28 = .ok (.iload_n 3, 1) := by decide +kernel
theorem d_X11_lead_29 : decode cX11_lead 29 = .ok (.invokestatic 207, 3) := by decide +kernel
theorem d_X11_lead_32 : decode cX11_lead 32 = .ok (.ifCond .ne 5, 3) := by decide +kernel
theorem d_X11_lead_35 : decode cX11_lead 35 = .ok (.iconst (-1), 1) := by decide +kernel
theorem d_X11_lead_36 : decode cX11_lead 36 = .ok (.ireturn, 1) := by decide +kernel
theorem d_X11_lead_37 : decode cX11_lead 37 = .ok (.aload_n 0, 1) := by decide +kernel
theorem d_X11_lead_38 : decode cX11_lead 38 = .ok (.getfield 26, 3) := by decide +kernel
theorem d_X11_lead_41 : decode cX11_lead 41 = .ok (.getfield 114, 3) := by decide +kernel
theorem d_X11_lead_44 : decode cX11_lead 44 = .ok (.getfield 155, 3) := by decide +kernel
theorem d_X11_lead_47 : decode cX11_lead 47 = .ok (.iload_n 1, 1) := by decide +kernel
theorem d_X11_lead_48 : decode cX11_lead 48 = .ok (.aaload, 1) := by decide +kernel
theorem d_X11_lead_49 : decode cX11_lead 49 = .ok (.iload_n 2, 1) := by decide +kernel
theorem d_X11_lead_50 : decode cX11_lead 50 = .ok (.iaload, 1) := by decide +kernel
theorem d_X11_lead_51 : decode cX11_lead 51 = .ok (.istore 4, 2) := by decide +kernel
theorem d_X11_lead_53 : decode cX11_lead 53 = .ok (.aload_n 0, 1) := by decide +kernel
theorem d_X11_lead_54 : decode cX11_lead 54 = .ok (.getfield 26, 3) := by decide +kernel
theorem d_X11_lead_57 : decode cX11_lead 57 = .ok (.getfield 114, 3) := by decide +kernel
theorem d_X11_lead_60 : decode cX11_lead 60 = .ok (.getfield 155, 3) := by decide +kernel
theorem d_X11_lead_63 : decode cX11_lead 63 = .ok (.iload_n 1, 1) := by decide +kernel
theorem d_X11_lead_64 : decode cX11_lead 64 = .ok (.aaload, 1) := by decide +kernel
theorem d_X11_lead_65 : decode cX11_lead 65 = .ok (.iload_n 2, 1) := by decide +kernel
theorem d_X11_lead_66 : decode cX11_lead 66 = .ok (.iload_n 3, 1) := by decide +kernel
theorem d_X11_lead_67 : decode cX11_lead 67 = .ok (.iastore, 1) := by decide +kernel
theorem d_X11_lead_68 : decode cX11_lead 68 = .ok (.iload 4, 2) := by decide +kernel
theorem d_X11_lead_70 : decode cX11_lead 70 = .ok (.ireturn, 1) := by decide +kernel
theorem b_X11_lead_0 {X : cX} {d : Nat} {μ : mM} {K : Option Value → mM → Prop} {r0 : Nat} {i1 : Nat} {i2 : Nat} {l3 : Int32} {p0 : Nat} (hw11_r0 : WF11 μ r0) (hr_p0 : rv μ r0 2 = some p0) (hw10_p0 : WF10 μ p0) (hw5_p01 : WF5 μ (p0 + 1)) (hK : (e_X5_has μ (p0 + 1) (nI i1)) = 0 → K (some (.int (-1))) μ) (hK_2 : ¬ (e_X5_has μ (p0 + 1) (nI i1)) = 0 → (e_X5_has μ (p0 + 1) (nI i2)) = 0 → K (some (.int (-1))) μ) (hb : ¬ (e_X5_has μ (p0 + 1) (nI i1)) = 0 → ¬ (e_X5_has μ (p0 + 1) (nI i2)) = 0 → ¬ (e_X11_isTruth μ l3) = 0 → i1 < 6) (hb_2 : ¬ (e_X5_has μ (p0 + 1) (nI i1)) = 0 → ¬ (e_X5_has μ (p0 + 1) (nI i2)) = 0 → ¬ (e_X11_isTruth μ l3) = 0 → i2 < 6) (hK_3 : ¬ (e_X5_has μ (p0 + 1) (nI i1)) = 0 → ¬ (e_X5_has μ (p0 + 1) (nI i2)) = 0 → ¬ (e_X11_isTruth μ l3) = 0 → K (some (.int (iv μ (p0 + 1 + 7 + i1) i2))) (wi μ (p0 + 1 + 7 + i1) i2 l3)) (hK_4 : ¬ (e_X5_has μ (p0 + 1) (nI i1)) = 0 → ¬ (e_X5_has μ (p0 + 1) (nI i2)) = 0 → (e_X11_isTruth μ l3) = 0 → K (some (.int (-1))) μ) : G X (Rm (d + 1)) mX11_lead 0 [(0, .ref r0), (1, .int (nI i1)), (2, .int (nI i2)), (3, .int l3)] [] μ 0 0 K := by
  refine G_aload_n d_X11_lead_0 rfl 0 rfl ?_
  refine G_getR (r := p0) 11 2 (w11_kd hw11_r0) hr_p0 cok11 (by decide) rfl fl_X11_26 d_X11_lead_1 ?_
  refine G_getR (r := p0 + 1) 10 0 (w10_kd hw10_p0) (w10_f0 hw10_p0) cok10 (by decide) rfl fl_X11_114 d_X11_lead_4 ?_
  refine G_iload_n d_X11_lead_7 rfl 1 rfl ?_
  refine G_callV (M' := mX5_has) (R' := (Rm d)) (S := []) [.int (nI i1)] 5 (w5_kd hw5_p01) cok5 rfl ok_X5_has ml_X11_138 pn_X5_has (ru_Rm (by decide)) (Nat.le_of_ble_eq_true rfl) d_X11_lead_8 (s_X5_has (μ := μ)  hw5_p01 ?_)
  show G X (Rm (d + 1)) mX11_lead 11 [(0, .ref r0), (1, .int (nI i1)), (2, .int (nI i2)), (3, .int l3)] [.int (e_X5_has μ (p0 + 1) (nI i1))] μ 0 0 K
  refine G_if_eq (tgt := 35) d_X11_lead_11 rfl (fun c0 => ?_) (fun c0 => ?_)
  ·
    refine G_iconst d_X11_lead_35 ic_m1 ?_
    exact G_iret rfl rfl rfl d_X11_lead_36 (hK c0)
  ·
    refine G_aload_n d_X11_lead_14 rfl 0 rfl ?_
    refine G_getR (r := p0) 11 2 (w11_kd hw11_r0) hr_p0 cok11 (by decide) rfl fl_X11_26 d_X11_lead_15 ?_
    refine G_getR (r := p0 + 1) 10 0 (w10_kd hw10_p0) (w10_f0 hw10_p0) cok10 (by decide) rfl fl_X11_114 d_X11_lead_18 ?_
    refine G_iload_n d_X11_lead_21 rfl 2 rfl ?_
    refine G_callV (M' := mX5_has) (R' := (Rm d)) (S := []) [.int (nI i2)] 5 (w5_kd hw5_p01) cok5 rfl ok_X5_has ml_X11_138 pn_X5_has (ru_Rm (by decide)) (Nat.le_of_ble_eq_true rfl) d_X11_lead_22 (s_X5_has (μ := μ)  hw5_p01 ?_)
    show G X (Rm (d + 1)) mX11_lead 25 [(0, .ref r0), (1, .int (nI i1)), (2, .int (nI i2)), (3, .int l3)] [.int (e_X5_has μ (p0 + 1) (nI i2))] μ 0 0 K
    refine G_if_eq (tgt := 35) d_X11_lead_25 rfl (fun c1 => ?_) (fun c1 => ?_)
    ·
      refine G_iconst d_X11_lead_35 ic_m1 ?_
      exact G_iret rfl rfl rfl d_X11_lead_36 (hK_2 c0 c1)
    ·
      refine G_iload_n d_X11_lead_28 rfl 3 rfl ?_
      refine G_callS (M' := mX11_isTruth) (R' := (Rm d)) (S := []) [.int l3] ok_X11_isTruth ml_X11_207 pn_X11_isTruth (ru_Rm (by decide)) (Nat.le_of_ble_eq_true rfl) d_X11_lead_29 (s_X11_isTruth (μ := μ)   ?_)
      show G X (Rm (d + 1)) mX11_lead 32 [(0, .ref r0), (1, .int (nI i1)), (2, .int (nI i2)), (3, .int l3)] [.int (e_X11_isTruth μ l3)] μ 0 0 K
      refine G_if_ne (tgt := 37) d_X11_lead_32 rfl (fun c2 => ?_) (fun c2 => ?_)
      ·
        refine G_aload_n d_X11_lead_37 rfl 0 rfl ?_
        refine G_getR (r := p0) 11 2 (w11_kd hw11_r0) hr_p0 cok11 (by decide) rfl fl_X11_26 d_X11_lead_38 ?_
        refine G_getR (r := p0 + 1) 10 0 (w10_kd hw10_p0) (w10_f0 hw10_p0) cok10 (by decide) rfl fl_X11_114 d_X11_lead_41 ?_
        refine G_getR (r := p0 + 1 + 6) 5 3 (w5_kd hw5_p01) (w5_f3 hw5_p01) cok5 (by decide) rfl fl_X11_155 d_X11_lead_44 ?_
        refine G_iload_n d_X11_lead_47 rfl 1 rfl ?_
        refine G_aaldA (r := p0 + 1 + 7 + i1) i1 (w5_k3 hw5_p01) rfl (hb c0 c1 c2) (w5_r3 hw5_p01 i1 (hb c0 c1 c2)) d_X11_lead_48 ?_
        refine G_iload_n d_X11_lead_49 rfl 2 rfl ?_
        refine G_iald i2 (w5_q3 hw5_p01 i1 (hb c0 c1 c2)) rfl (hb_2 c0 c1 c2) d_X11_lead_50 ?_
        refine G_istore (L' := [(4, .int (iv μ (p0 + 1 + 7 + i1) i2)), (0, .ref r0), (1, .int (nI i1)), (2, .int (nI i2)), (3, .int l3)]) d_X11_lead_51 (by decide) rfl ?_
        refine G_aload_n d_X11_lead_53 rfl 1 rfl ?_
        refine G_getR (r := p0) 11 2 (w11_kd hw11_r0) hr_p0 cok11 (by decide) rfl fl_X11_26 d_X11_lead_54 ?_
        refine G_getR (r := p0 + 1) 10 0 (w10_kd hw10_p0) (w10_f0 hw10_p0) cok10 (by decide) rfl fl_X11_114 d_X11_lead_57 ?_
        refine G_getR (r := p0 + 1 + 6) 5 3 (w5_kd hw5_p01) (w5_f3 hw5_p01) cok5 (by decide) rfl fl_X11_155 d_X11_lead_60 ?_
        refine G_iload_n d_X11_lead_63 rfl 2 rfl ?_
        refine G_aaldA (r := p0 + 1 + 7 + i1) i1 (w5_k3 hw5_p01) rfl (hb c0 c1 c2) (w5_r3 hw5_p01 i1 (hb c0 c1 c2)) d_X11_lead_64 ?_
        refine G_iload_n d_X11_lead_65 rfl 3 rfl ?_
        refine G_iload_n d_X11_lead_66 rfl 4 rfl ?_
        refine G_iast i2 (w5_q3 hw5_p01 i1 (hb c0 c1 c2)) rfl (hb_2 c0 c1 c2) d_X11_lead_67 ?_
        refine G_iload d_X11_lead_68 0 rfl ?_
        exact G_iret rfl rfl rfl d_X11_lead_70 (hK_3 c0 c1 c2)
      ·
        refine G_iconst d_X11_lead_35 ic_m1 ?_
        exact G_iret rfl rfl rfl d_X11_lead_36 (hK_4 c0 c1 c2)
theorem d_X11_deed_0 : decode cX11_deed 0 = .ok (.aload_n 0, 1) := by decide +kernel
theorem d_X11_deed_1 : decode cX11_deed 1 = .ok (.getfield 54, 3) := by decide +kernel
theorem d_X11_deed_4 : decode cX11_deed 4 = .ok (.aload_n 0, 1) := by decide +kernel
theorem d_X11_deed_5 : decode cX11_deed 5 = .ok (.getfield 26, 3) := by decide +kernel
theorem d_X11_deed_8 : decode cX11_deed 8 = .ok (.getfield 114, 3) := by decide +kernel
theorem d_X11_deed_11 : decode cX11_deed 11 = .ok (.iload_n 1, 1) := by decide +kernel
theorem d_X11_deed_12 : decode cX11_deed 12 = .ok (.iload_n 2, 1) := by decide +kernel
theorem d_X11_deed_13 : decode cX11_deed 13 = .ok (.iload_n 3, 1) := by decide +kernel
theorem d_X11_deed_14 : decode cX11_deed 14 = .ok (.invokevirtual 210, 3) := by decide +kernel
theorem d_X11_deed_17 : decode cX11_deed 17 = .ok (.ireturn, 1) := by decide +kernel
theorem b_X11_deed_0 {X : cX} {d : Nat} {μ : mM} {K : Option Value → mM → Prop} {r0 : Nat} {l1 : Int32} {l2 : Int32} {l3 : Int32} {p0 : Nat} (hw11_r0 : WF11 μ r0) (hr_p0 : rv μ r0 2 = some p0) (hw10_p0 : WF10 μ p0) (hw1_r0147 : WF1 μ (r0 + 147)) (hc_perform : Ct X (Rm (d + 3)) mX1_perform [.ref (r0 + 147), .ref (p0 + 1), .int l1, .int l2, .int l3] μ (fun r μ2 => G X (Rm (d + 4)) mX11_deed 17 [] (r.toList ++ []) μ2 0 0 K)) : G X (Rm (d + 4)) mX11_deed 0 [(0, .ref r0), (1, .int l1), (2, .int l2), (3, .int l3)] [] μ 0 0 K := by
  refine G_aload_n d_X11_deed_0 rfl 0 rfl ?_
  refine G_getR (r := r0 + 147) 11 9 (w11_kd hw11_r0) (w11_f9 hw11_r0) cok11 (by decide) rfl fl_X11_54 d_X11_deed_1 ?_
  refine G_aload_n d_X11_deed_4 rfl 0 rfl ?_
  refine G_getR (r := p0) 11 2 (w11_kd hw11_r0) hr_p0 cok11 (by decide) rfl fl_X11_26 d_X11_deed_5 ?_
  refine G_getR (r := p0 + 1) 10 0 (w10_kd hw10_p0) (w10_f0 hw10_p0) cok10 (by decide) rfl fl_X11_114 d_X11_deed_8 ?_
  refine G_iload_n d_X11_deed_11 rfl 1 rfl ?_
  refine G_iload_n d_X11_deed_12 rfl 2 rfl ?_
  refine G_iload_n d_X11_deed_13 rfl 3 rfl ?_
  refine G_sub (L' := []) [] rfl ?_
  refine G_callV (M' := mX1_perform) (R' := (Rm (d + 3))) (S := []) [.ref (p0 + 1), .int l1, .int l2, .int l3] 1 (w1_kd hw1_r0147) cok1 rfl ok_X1_perform ml_X11_210 pn_X1_perform (ru_Rm (by decide)) (Nat.le_of_ble_eq_true rfl) d_X11_deed_14 ?_
  exact hc_perform
theorem b_X11_deed_17 {X : cX} {d : Nat} {μ : mM} {K : Option Value → mM → Prop} {v0 : Int32} (hK : K (some (.int v0)) μ) : G X (Rm (d + 4)) mX11_deed 17 [] [.int v0] μ 0 0 K := by
  exact G_iret rfl rfl rfl d_X11_deed_17 hK
theorem d_X11_fold_0 : decode cX11_fold 0 = .ok (.iload_n 1, 1) := by decide +kernel
theorem d_X11_fold_1 : decode cX11_fold 1 = .ok (.invokestatic 193, 3) := by decide +kernel
theorem d_X11_fold_4 : decode cX11_fold 4 = .ok (.ifCond .ne 5, 3) := by decide +kernel
theorem d_X11_fold_7 : decode cX11_fold 7 = .ok (.iconst (-1), 1) := by decide +kernel
theorem d_X11_fold_8 : decode cX11_fold 8 = .ok (.ireturn, 1) := by decide +kernel
theorem d_X11_fold_9 : decode cX11_fold 9 = .ok (.aload_n 0, 1) := by decide +kernel
theorem d_X11_fold_10 : decode cX11_fold 10 = .ok (.getfield 61, 3) := by decide +kernel
theorem d_X11_fold_13 : decode cX11_fold 13 = .ok (.aload_n 0, 1) := by decide +kernel
theorem d_X11_fold_14 : decode cX11_fold 14 = .ok (.getfield 26, 3) := by decide +kernel
theorem d_X11_fold_17 : decode cX11_fold 17 = .ok (.getfield 114, 3) := by decide +kernel
theorem d_X11_fold_20 : decode cX11_fold 20 = .ok (.iload_n 1, 1) := by decide +kernel
theorem d_X11_fold_21 : decode cX11_fold 21 = .ok (.iconst 1, 1) := by decide +kernel
theorem d_X11_fold_22 : decode cX11_fold 22 = .ok (.if_icmp .ne 7, 3) := by decide +kernel
theorem d_X11_fold_25 : decode cX11_fold 25 = .ok (.iconst 1, 1) := by decide +kernel
theorem d_X11_fold_26 : decode cX11_fold 26 = .ok (.goto 4, 3) := by decide +kernel
theorem d_X11_fold_29 : decode cX11_fold 29 = .ok (.iconst 0, 1) := by decide +kernel
theorem d_X11_fold_30 : decode cX11_fold 30 = .ok (.invokevirtual 214, 3) := by decide +kernel
theorem d_X11_fold_33 : decode cX11_fold 33 = .ok (.aload_n 0, 1) := by decide +kernel
theorem d_X11_fold_34 : decode cX11_fold 34 = .ok (.getfield 26, 3) := by decide +kernel
theorem d_X11_fold_37 : decode cX11_fold 37 = .ok (.getfield 114, 3) := by decide +kernel
theorem d_X11_fold_40 : decode cX11_fold 40 = .ok (.getfield 117, 3) := by decide +kernel
theorem d_X11_fold_43 : decode cX11_fold 43 = .ok (.ireturn, 1) := by decide +kernel
theorem b_X11_fold_0 {X : cX} {d : Nat} {μ : mM} {K : Option Value → mM → Prop} {r0 : Nat} {l1 : Int32} {p0 : Nat} (hw11_r0 : WF11 μ r0) (hr_p0 : rv μ r0 2 = some p0) (hw10_p0 : WF10 μ p0) (h : ¬ (e_X11_isSwitch μ l1) = 0 → ¬ l1 = (1 : Int32) → G X (Rm (d + 4)) mX11_fold 30 [(0, .ref r0)] [.int 0, .ref (p0 + 1), .ref (r0 + 149)] μ 0 0 K) (h_2 : ¬ (e_X11_isSwitch μ l1) = 0 → l1 = (1 : Int32) → G X (Rm (d + 4)) mX11_fold 30 [(0, .ref r0)] [.int 1, .ref (p0 + 1), .ref (r0 + 149)] μ 0 0 K) (hK : (e_X11_isSwitch μ l1) = 0 → K (some (.int (-1))) μ) : G X (Rm (d + 4)) mX11_fold 0 [(0, .ref r0), (1, .int l1)] [] μ 0 0 K := by
  refine G_iload_n d_X11_fold_0 rfl 1 rfl ?_
  refine G_callS (M' := mX11_isSwitch) (R' := (Rm (d + 3))) (S := []) [.int l1] ok_X11_isSwitch ml_X11_193 pn_X11_isSwitch (ru_Rm (by decide)) (Nat.le_of_ble_eq_true rfl) d_X11_fold_1 (s_X11_isSwitch (μ := μ)   ?_)
  show G X (Rm (d + 4)) mX11_fold 4 [(0, .ref r0), (1, .int l1)] [.int (e_X11_isSwitch μ l1)] μ 0 0 K
  refine G_if_ne (tgt := 9) d_X11_fold_4 rfl (fun c0 => ?_) (fun c0 => ?_)
  ·
    refine G_aload_n d_X11_fold_9 rfl 0 rfl ?_
    refine G_getR (r := r0 + 149) 11 10 (w11_kd hw11_r0) (w11_f10 hw11_r0) cok11 (by decide) rfl fl_X11_61 d_X11_fold_10 ?_
    refine G_aload_n d_X11_fold_13 rfl 0 rfl ?_
    refine G_getR (r := p0) 11 2 (w11_kd hw11_r0) hr_p0 cok11 (by decide) rfl fl_X11_26 d_X11_fold_14 ?_
    refine G_getR (r := p0 + 1) 10 0 (w10_kd hw10_p0) (w10_f0 hw10_p0) cok10 (by decide) rfl fl_X11_114 d_X11_fold_17 ?_
    refine G_iload_n d_X11_fold_20 rfl 1 rfl ?_
    refine G_iconst d_X11_fold_21 ic_1 ?_
    refine G_icmp_ne (tgt := 29) d_X11_fold_22 rfl (fun c1 => ?_) (fun c1 => ?_)
    ·
      refine G_iconst d_X11_fold_29 ic_0 ?_
      refine G_sub (L' := [(0, .ref r0)]) [0] rfl ?_
      exact (h c0 c1)
    ·
      refine G_iconst d_X11_fold_25 ic_1 ?_
      refine G_goto (tgt := 30) d_X11_fold_26 rfl ?_
      refine G_sub (L' := [(0, .ref r0)]) [0] rfl ?_
      exact (h_2 c0 c1)
  ·
    refine G_iconst d_X11_fold_7 ic_m1 ?_
    exact G_iret rfl rfl rfl d_X11_fold_8 (hK c0)
theorem b_X11_fold_30 {X : cX} {d : Nat} {μ : mM} {K : Option Value → mM → Prop} {r0 : Nat} {q0 : Nat} {q1 : Nat} {v2 : Int32} (hw2_q0 : WF2 μ q0) (hc_apply : Ct X (Rm (d + 3)) mX2_apply [.ref q0, .ref q1, .int v2] μ (fun r μ2 => G X (Rm (d + 4)) mX11_fold 33 [(0, .ref r0)] (r.toList ++ []) μ2 0 0 K)) : G X (Rm (d + 4)) mX11_fold 30 [(0, .ref r0)] [.int v2, .ref q1, .ref q0] μ 0 0 K := by
  refine G_callV (M' := mX2_apply) (R' := (Rm (d + 3))) (S := []) [.ref q1, .int v2] 2 (w2_kd hw2_q0) cok2 rfl ok_X2_apply ml_X11_214 pn_X2_apply (ru_Rm (by decide)) (Nat.le_of_ble_eq_true rfl) d_X11_fold_30 ?_
  exact hc_apply
theorem b_X11_fold_33 {X : cX} {d : Nat} {μ : mM} {K : Option Value → mM → Prop} {r0 : Nat} {p0 : Nat} (hw11_r0 : WF11 μ r0) (hr_p0 : rv μ r0 2 = some p0) (hw10_p0 : WF10 μ p0) (hw5_p01 : WF5 μ (p0 + 1)) (hK : K (some (.int (iv μ (p0 + 1) 0))) μ) : G X (Rm (d + 4)) mX11_fold 33 [(0, .ref r0)] [] μ 0 0 K := by
  refine G_aload_n d_X11_fold_33 rfl 0 rfl ?_
  refine G_getR (r := p0) 11 2 (w11_kd hw11_r0) hr_p0 cok11 (by decide) rfl fl_X11_26 d_X11_fold_34 ?_
  refine G_getR (r := p0 + 1) 10 0 (w10_kd hw10_p0) (w10_f0 hw10_p0) cok10 (by decide) rfl fl_X11_114 d_X11_fold_37 ?_
  refine G_getI 5 0 (w5_kd hw5_p01) cok5 (by decide) rfl fl_X11_117 d_X11_fold_40 ?_
  exact G_iret rfl rfl rfl d_X11_fold_43 hK
theorem d_X11_sharpen_0 : decode cX11_sharpen 0 = .ok (.aload_n 0, 1) := by decide +kernel
theorem d_X11_sharpen_1 : decode cX11_sharpen 1 = .ok (.getfield 68, 3) := by decide +kernel
theorem d_X11_sharpen_4 : decode cX11_sharpen 4 = .ok (.aload_n 0, 1) := by decide +kernel
theorem d_X11_sharpen_5 : decode cX11_sharpen 5 = .ok (.getfield 26, 3) := by decide +kernel
theorem d_X11_sharpen_8 : decode cX11_sharpen 8 = .ok (.getfield 114, 3) := by decide +kernel
theorem d_X11_sharpen_11 : decode cX11_sharpen 11 = .ok (.invokevirtual 218, 3) := by decide +kernel
theorem d_X11_sharpen_14 : decode cX11_sharpen 14 = .ok (.ireturn, 1) := by decide +kernel
theorem b_X11_sharpen_0 {X : cX} {d : Nat} {μ : mM} {K : Option Value → mM → Prop} {r0 : Nat} {p0 : Nat} (hw11_r0 : WF11 μ r0) (hr_p0 : rv μ r0 2 = some p0) (hw10_p0 : WF10 μ p0) (hw6_r0175 : WF6 μ (r0 + 175)) (hc_apply : Ct X (Rm (d + 2)) mX6_apply [.ref (r0 + 175), .ref (p0 + 1)] μ (fun r μ2 => G X (Rm (d + 3)) mX11_sharpen 14 [] (r.toList ++ []) μ2 0 0 K)) : G X (Rm (d + 3)) mX11_sharpen 0 [(0, .ref r0)] [] μ 0 0 K := by
  refine G_aload_n d_X11_sharpen_0 rfl 0 rfl ?_
  refine G_getR (r := r0 + 175) 11 11 (w11_kd hw11_r0) (w11_f11 hw11_r0) cok11 (by decide) rfl fl_X11_68 d_X11_sharpen_1 ?_
  refine G_aload_n d_X11_sharpen_4 rfl 0 rfl ?_
  refine G_getR (r := p0) 11 2 (w11_kd hw11_r0) hr_p0 cok11 (by decide) rfl fl_X11_26 d_X11_sharpen_5 ?_
  refine G_getR (r := p0 + 1) 10 0 (w10_kd hw10_p0) (w10_f0 hw10_p0) cok10 (by decide) rfl fl_X11_114 d_X11_sharpen_8 ?_
  refine G_sub (L' := []) [] rfl ?_
  refine G_callV (M' := mX6_apply) (R' := (Rm (d + 2))) (S := []) [.ref (p0 + 1)] 6 (w6_kd hw6_r0175) cok6 rfl ok_X6_apply ml_X11_218 pn_X6_apply (ru_Rm (by decide)) (Nat.le_of_ble_eq_true rfl) d_X11_sharpen_11 ?_
  exact hc_apply
theorem b_X11_sharpen_14 {X : cX} {d : Nat} {μ : mM} {K : Option Value → mM → Prop} {v0 : Int32} (hK : K (some (.int v0)) μ) : G X (Rm (d + 3)) mX11_sharpen 14 [] [.int v0] μ 0 0 K := by
  exact G_iret rfl rfl rfl d_X11_sharpen_14 hK
theorem d_X11_ways_0 : decode cX11_ways 0 = .ok (.iload_n 1, 1) := by decide +kernel
theorem d_X11_ways_1 : decode cX11_ways 1 = .ok (.invokestatic 165, 3) := by decide +kernel
theorem d_X11_ways_4 : decode cX11_ways 4 = .ok (.ifCond .eq 21, 3) := by decide +kernel
theorem d_X11_ways_7 : decode cX11_ways 7 = .ok (.aload_n 0, 1) := by decide +kernel
theorem d_X11_ways_8 : decode cX11_ways 8 = .ok (.getfield 75, 3) := by decide +kernel
theorem d_X11_ways_11 : decode cX11_ways 11 = .ok (.aload_n 0, 1) := by decide +kernel
theorem d_X11_ways_12 : decode cX11_ways 12 = .ok (.getfield 26, 3) := by decide +kernel
theorem d_X11_ways_15 : decode cX11_ways 15 = .ok (.getfield 114, 3) := by decide +kernel
theorem d_X11_ways_18 : decode cX11_ways 18 = .ok (.iload_n 1, 1) := by decide +kernel
theorem d_X11_ways_19 : decode cX11_ways 19 = .ok (.invokevirtual 220, 3) := by decide +kernel
theorem d_X11_ways_22 : decode cX11_ways 22 = .ok (.goto 4, 3) := by decide +kernel
theorem d_X11_ways_25 : decode cX11_ways 25 = .ok (.iconst (-1), 1) := by decide +kernel
theorem d_X11_ways_26 : decode cX11_ways 26 = .ok (.ireturn, 1) := by decide +kernel
theorem b_X11_ways_0 {X : cX} {d : Nat} {μ : mM} {K : Option Value → mM → Prop} {r0 : Nat} {l1 : Int32} {p0 : Nat} (hK : (e_X11_isVariable μ l1) = 0 → K (some (.int (-1))) μ) (hw11_r0 : WF11 μ r0) (hr_p0 : rv μ r0 2 = some p0) (hw10_p0 : WF10 μ p0) (hw8_r0200 : WF8 μ (r0 + 200)) (hc_number : ¬ (e_X11_isVariable μ l1) = 0 → Ct X (Rm (d + 3)) mX8_number [.ref (r0 + 200), .ref (p0 + 1), .int l1] μ (fun r μ2 => G X (Rm (d + 4)) mX11_ways 22 [] (r.toList ++ []) μ2 0 0 K)) : G X (Rm (d + 4)) mX11_ways 0 [(0, .ref r0), (1, .int l1)] [] μ 0 0 K := by
  refine G_iload_n d_X11_ways_0 rfl 1 rfl ?_
  refine G_callS (M' := mX11_isVariable) (R' := (Rm (d + 3))) (S := []) [.int l1] ok_X11_isVariable ml_X11_165 pn_X11_isVariable (ru_Rm (by decide)) (Nat.le_of_ble_eq_true rfl) d_X11_ways_1 (s_X11_isVariable (μ := μ)   ?_)
  show G X (Rm (d + 4)) mX11_ways 4 [(0, .ref r0), (1, .int l1)] [.int (e_X11_isVariable μ l1)] μ 0 0 K
  refine G_if_eq (tgt := 25) d_X11_ways_4 rfl (fun c0 => ?_) (fun c0 => ?_)
  ·
    refine G_iconst d_X11_ways_25 ic_m1 ?_
    exact G_iret rfl rfl rfl d_X11_ways_26 (hK c0)
  ·
    refine G_aload_n d_X11_ways_7 rfl 0 rfl ?_
    refine G_getR (r := r0 + 200) 11 12 (w11_kd hw11_r0) (w11_f12 hw11_r0) cok11 (by decide) rfl fl_X11_75 d_X11_ways_8 ?_
    refine G_aload_n d_X11_ways_11 rfl 0 rfl ?_
    refine G_getR (r := p0) 11 2 (w11_kd hw11_r0) hr_p0 cok11 (by decide) rfl fl_X11_26 d_X11_ways_12 ?_
    refine G_getR (r := p0 + 1) 10 0 (w10_kd hw10_p0) (w10_f0 hw10_p0) cok10 (by decide) rfl fl_X11_114 d_X11_ways_15 ?_
    refine G_iload_n d_X11_ways_18 rfl 1 rfl ?_
    refine G_sub (L' := []) [] rfl ?_
    refine G_callV (M' := mX8_number) (R' := (Rm (d + 3))) (S := []) [.ref (p0 + 1), .int l1] 8 (w8_kd hw8_r0200) cok8 rfl ok_X8_number ml_X11_220 pn_X8_number (ru_Rm (by decide)) (Nat.le_of_ble_eq_true rfl) d_X11_ways_19 ?_
    exact (hc_number c0)
theorem b_X11_ways_22 {X : cX} {d : Nat} {μ : mM} {K : Option Value → mM → Prop} {v0 : Int32} (hK : K (some (.int v0)) μ) : G X (Rm (d + 4)) mX11_ways 22 [] [.int v0] μ 0 0 K := by
  refine G_goto (tgt := 26) d_X11_ways_22 rfl ?_
  exact G_iret rfl rfl rfl d_X11_ways_26 hK
theorem d_X11_split_0 : decode cX11_split 0 = .ok (.iload_n 1, 1) := by decide +kernel
theorem d_X11_split_1 : decode cX11_split 1 = .ok (.invokestatic 165, 3) := by decide +kernel
theorem d_X11_split_4 : decode cX11_split 4 = .ok (.ifCond .eq 22, 3) := by decide +kernel
theorem d_X11_split_7 : decode cX11_split 7 = .ok (.aload_n 0, 1) := by decide +kernel
theorem d_X11_split_8 : decode cX11_split 8 = .ok (.getfield 75, 3) := by decide +kernel
theorem d_X11_split_11 : decode cX11_split 11 = .ok (.aload_n 0, 1) := by decide +kernel
theorem d_X11_split_12 : decode cX11_split 12 = .ok (.getfield 26, 3) := by decide +kernel
theorem d_X11_split_15 : decode cX11_split 15 = .ok (.getfield 114, 3) := by decide +kernel
theorem d_X11_split_18 : decode cX11_split 18 = .ok (.iload_n 1, 1) := by decide +kernel
theorem d_X11_split_19 : decode cX11_split 19 = .ok (.iload_n 2, 1) := by decide +kernel
theorem d_X11_split_20 : decode cX11_split 20 = .ok (.invokevirtual 224, 3) := by decide +kernel
theorem d_X11_split_23 : decode cX11_split 23 = .ok (.goto 4, 3) := by decide +kernel
theorem d_X11_split_26 : decode cX11_split 26 = .ok (.iconst (-1), 1) := by decide +kernel
theorem d_X11_split_27 : decode cX11_split 27 = .ok (.ireturn, 1) := by decide +kernel
theorem b_X11_split_0 {X : cX} {d : Nat} {μ : mM} {K : Option Value → mM → Prop} {r0 : Nat} {l1 : Int32} {l2 : Int32} {p0 : Nat} (hK : (e_X11_isVariable μ l1) = 0 → K (some (.int (-1))) μ) (hw11_r0 : WF11 μ r0) (hr_p0 : rv μ r0 2 = some p0) (hw10_p0 : WF10 μ p0) (hw8_r0200 : WF8 μ (r0 + 200)) (hc_apply : ¬ (e_X11_isVariable μ l1) = 0 → Ct X (Rm (d + 3)) mX8_apply [.ref (r0 + 200), .ref (p0 + 1), .int l1, .int l2] μ (fun r μ2 => G X (Rm (d + 4)) mX11_split 23 [] (r.toList ++ []) μ2 0 0 K)) : G X (Rm (d + 4)) mX11_split 0 [(0, .ref r0), (1, .int l1), (2, .int l2)] [] μ 0 0 K := by
  refine G_iload_n d_X11_split_0 rfl 1 rfl ?_
  refine G_callS (M' := mX11_isVariable) (R' := (Rm (d + 3))) (S := []) [.int l1] ok_X11_isVariable ml_X11_165 pn_X11_isVariable (ru_Rm (by decide)) (Nat.le_of_ble_eq_true rfl) d_X11_split_1 (s_X11_isVariable (μ := μ)   ?_)
  show G X (Rm (d + 4)) mX11_split 4 [(0, .ref r0), (1, .int l1), (2, .int l2)] [.int (e_X11_isVariable μ l1)] μ 0 0 K
  refine G_if_eq (tgt := 26) d_X11_split_4 rfl (fun c0 => ?_) (fun c0 => ?_)
  ·
    refine G_iconst d_X11_split_26 ic_m1 ?_
    exact G_iret rfl rfl rfl d_X11_split_27 (hK c0)
  ·
    refine G_aload_n d_X11_split_7 rfl 0 rfl ?_
    refine G_getR (r := r0 + 200) 11 12 (w11_kd hw11_r0) (w11_f12 hw11_r0) cok11 (by decide) rfl fl_X11_75 d_X11_split_8 ?_
    refine G_aload_n d_X11_split_11 rfl 0 rfl ?_
    refine G_getR (r := p0) 11 2 (w11_kd hw11_r0) hr_p0 cok11 (by decide) rfl fl_X11_26 d_X11_split_12 ?_
    refine G_getR (r := p0 + 1) 10 0 (w10_kd hw10_p0) (w10_f0 hw10_p0) cok10 (by decide) rfl fl_X11_114 d_X11_split_15 ?_
    refine G_iload_n d_X11_split_18 rfl 1 rfl ?_
    refine G_iload_n d_X11_split_19 rfl 2 rfl ?_
    refine G_sub (L' := []) [] rfl ?_
    refine G_callV (M' := mX8_apply) (R' := (Rm (d + 3))) (S := []) [.ref (p0 + 1), .int l1, .int l2] 8 (w8_kd hw8_r0200) cok8 rfl ok_X8_apply ml_X11_224 pn_X8_apply (ru_Rm (by decide)) (Nat.le_of_ble_eq_true rfl) d_X11_split_20 ?_
    exact (hc_apply c0)
theorem b_X11_split_23 {X : cX} {d : Nat} {μ : mM} {K : Option Value → mM → Prop} {v0 : Int32} (hK : K (some (.int v0)) μ) : G X (Rm (d + 4)) mX11_split 23 [] [.int v0] μ 0 0 K := by
  refine G_goto (tgt := 27) d_X11_split_23 rfl ?_
  exact G_iret rfl rfl rfl d_X11_split_27 hK
theorem d_X11_run_0 : decode cX11_run 0 = .ok (.iload_n 2, 1) := by decide +kernel
theorem d_X11_run_1 : decode cX11_run 1 = .ok (.iconst 1, 1) := by decide +kernel
theorem d_X11_run_2 : decode cX11_run 2 = .ok (.if_icmp .lt 9, 3) := by decide +kernel
theorem d_X11_run_5 : decode cX11_run 5 = .ok (.iload_n 2, 1) := by decide +kernel
theorem d_X11_run_6 : decode cX11_run 6 = .ok (.bipush 20, 2) := by decide +kernel
theorem d_X11_run_8 : decode cX11_run 8 = .ok (.if_icmp .le 5, 3) := by decide +kernel
theorem d_X11_run_11 : decode cX11_run 11 = .ok (.iconst (-1), 1) := by decide +kernel
theorem d_X11_run_12 : decode cX11_run 12 = .ok (.ireturn, 1) := by decide +kernel
theorem d_X11_run_13 : decode cX11_run 13 = .ok (.iconst 0, 1) := by decide +kernel
theorem d_X11_run_14 : decode cX11_run 14 = .ok (.istore_n 3, 1) := by decide +kernel
theorem d_X11_run_15 : decode cX11_run 15 = .ok (.iload_n 1, 1) := by decide +kernel
theorem d_X11_run_16 : decode cX11_run 16 = .ok (.istore 4, 2) := by decide +kernel
theorem d_X11_run_18 : decode cX11_run 18 = .ok (.iconst 0, 1) := by decide +kernel
theorem d_X11_run_19 : decode cX11_run 19 = .ok (.istore 5, 2) := by decide +kernel
theorem d_X11_run_21 : decode cX11_run 21 = .ok (.iload 5, 2) := by decide +kernel
theorem d_X11_run_23 : decode cX11_run 23 = .ok (.iload_n 2, 1) := by decide +kernel
theorem d_X11_run_24 : decode cX11_run 24 = .ok (.if_icmp .ge 74, 3) := by decide +kernel
theorem d_X11_run_27 : decode cX11_run 27 = .ok (.iload 4, 2) := by decide +kernel
theorem d_X11_run_29 : decode cX11_run 29 = .ok (.ldc 227, 2) := by decide +kernel
theorem d_X11_run_31 : decode cX11_run 31 = .ok (.imul, 1) := by decide +kernel
theorem d_X11_run_32 : decode cX11_run 32 = .ok (.sipush 12345, 3) := by decide +kernel
theorem d_X11_run_35 : decode cX11_run 35 = .ok (.iadd, 1) := by decide +kernel
theorem d_X11_run_36 : decode cX11_run 36 = .ok (.istore 4, 2) := by decide +kernel
theorem d_X11_run_38 : decode cX11_run 38 = .ok (.iload 4, 2) := by decide +kernel
theorem d_X11_run_40 : decode cX11_run 40 = .ok (.bipush 16, 2) := by decide +kernel
theorem d_X11_run_42 : decode cX11_run 42 = .ok (.iushr, 1) := by decide +kernel
theorem d_X11_run_43 : decode cX11_run 43 = .ok (.sipush 32767, 3) := by decide +kernel
theorem d_X11_run_46 : decode cX11_run 46 = .ok (.iand, 1) := by decide +kernel
theorem d_X11_run_47 : decode cX11_run 47 = .ok (.istore 6, 2) := by decide +kernel
theorem d_X11_run_49 : decode cX11_run 49 = .ok (.aload_n 0, 1) := by decide +kernel
theorem d_X11_run_50 : decode cX11_run 50 = .ok (.getfield 54, 3) := by decide +kernel
theorem d_X11_run_53 : decode cX11_run 53 = .ok (.aload_n 0, 1) := by decide +kernel
theorem d_X11_run_54 : decode cX11_run 54 = .ok (.getfield 26, 3) := by decide +kernel
theorem d_X11_run_57 : decode cX11_run 57 = .ok (.getfield 114, 3) := by decide +kernel
theorem d_X11_run_60 : decode cX11_run 60 = .ok (.iload 6, 2) := by decide +kernel
theorem d_X11_run_62 : decode cX11_run 62 = .ok (.bipush 6, 2) := by decide +kernel
theorem d_X11_run_64 : decode cX11_run 64 = .ok (.irem, 1) := by decide +kernel
theorem d_X11_run_65 : decode cX11_run 65 = .ok (.iload 6, 2) := by decide +kernel
theorem d_X11_run_67 : decode cX11_run 67 = .ok (.bipush 8, 2) := by decide +kernel
theorem d_X11_run_69 : decode cX11_run 69 = .ok (.idiv, 1) := by decide +kernel
theorem d_X11_run_70 : decode cX11_run 70 = .ok (.iconst 3, 1) := by decide +kernel
theorem d_X11_run_71 : decode cX11_run 71 = .ok (.irem, 1) := by decide +kernel
theorem d_X11_run_72 : decode cX11_run 72 = .ok (.iload 6, 2) := by decide +kernel
theorem d_X11_run_74 : decode cX11_run 74 = .ok (.bipush 32, 2) := by decide +kernel
theorem d_X11_run_76 : decode cX11_run 76 = .ok (.idiv, 1) := by decide +kernel
theorem d_X11_run_77 : decode cX11_run 77 = .ok (.iconst 3, 1) := by decide +kernel
theorem d_X11_run_78 : decode cX11_run 78 = .ok (.irem, 1) := by decide +kernel
theorem d_X11_run_79 : decode cX11_run 79 = .ok (.invokevirtual 210, 3) := by decide +kernel
theorem d_X11_run_82 : decode cX11_run 82 = .ok (.istore 7, 2) := by decide +kernel
theorem d_X11_run_84 : decode cX11_run 84 = .ok (.iload 7, 2) := by decide +kernel
theorem d_X11_run_86 : decode cX11_run 86 = .ok (.ifCond .lt 6, 3) := by decide +kernel
theorem d_X11_run_89 : decode cX11_run 89 = .ok (.iinc 3 1, 3) := by decide +kernel
theorem d_X11_run_92 : decode cX11_run 92 = .ok (.iinc 5 1, 3) := by decide +kernel
theorem d_X11_run_95 : decode cX11_run 95 = .ok (.goto (-74), 3) := by decide +kernel
theorem d_X11_run_98 : decode cX11_run 98 = .ok (.iload_n 3, 1) := by decide +kernel
theorem d_X11_run_99 : decode cX11_run 99 = .ok (.ireturn, 1) := by decide +kernel
theorem b_X11_run_0 {X : cX} {d : Nat} {μ : mM} {K : Option Value → mM → Prop} {r0 : Nat} {l1 : Int32} {l2 : Int32} (hK : l2 < (1 : Int32) → K (some (.int (-1))) μ) (h : ¬ l2 < (1 : Int32) → l2 ≤ (20 : Int32) → G X (Rm (d + 4)) mX11_run 21 [(0, .ref r0), (2, .int l2), (3, .int (nI 0)), (4, .int l1), (5, .int (nI 0))] [] μ 0 0 K) (hK_2 : ¬ l2 < (1 : Int32) → ¬ l2 ≤ (20 : Int32) → K (some (.int (-1))) μ) : G X (Rm (d + 4)) mX11_run 0 [(0, .ref r0), (1, .int l1), (2, .int l2)] [] μ 0 0 K := by
  refine G_iload_n d_X11_run_0 rfl 2 rfl ?_
  refine G_iconst d_X11_run_1 ic_1 ?_
  refine G_icmp_lt (tgt := 11) d_X11_run_2 rfl (fun c0 => ?_) (fun c0 => ?_)
  ·
    refine G_iconst d_X11_run_11 ic_m1 ?_
    exact G_iret rfl rfl rfl d_X11_run_12 (hK c0)
  ·
    refine G_iload_n d_X11_run_5 rfl 2 rfl ?_
    refine G_bipush d_X11_run_6 bp_20 ?_
    refine G_icmp_le (tgt := 13) d_X11_run_8 rfl (fun c1 => ?_) (fun c1 => ?_)
    ·
      refine G_iconst d_X11_run_13 ic_0 ?_
      refine G_istore_n (L' := [(3, .int (nI 0)), (0, .ref r0), (1, .int l1), (2, .int l2)]) d_X11_run_14 rfl (by decide) rfl ?_
      refine G_iload_n d_X11_run_15 rfl 2 rfl ?_
      refine G_istore (L' := [(4, .int l1), (3, .int (nI 0)), (0, .ref r0), (1, .int l1), (2, .int l2)]) d_X11_run_16 (by decide) rfl ?_
      refine G_iconst d_X11_run_18 ic_0 ?_
      refine G_istore (L' := [(5, .int (nI 0)), (4, .int l1), (3, .int (nI 0)), (0, .ref r0), (1, .int l1), (2, .int l2)]) d_X11_run_19 (by decide) rfl ?_
      refine G_sub (L' := [(0, .ref r0), (2, .int l2), (3, .int (nI 0)), (4, .int l1), (5, .int (nI 0))]) [3, 5, 2, 1, 0] rfl ?_
      exact (h c0 c1)
    ·
      refine G_iconst d_X11_run_11 ic_m1 ?_
      exact G_iret rfl rfl rfl d_X11_run_12 (hK_2 c0 c1)
theorem b_X11_run_21 {X : cX} {d : Nat} {μ : mM} {K : Option Value → mM → Prop} {r0 : Nat} {l2 : Int32} {l3 : Int32} {l4 : Int32} {l5 : Int32} {p0 : Nat} (hK : l2 ≤ l5 → K (some (.int l3)) μ) (hw11_r0 : WF11 μ r0) (hr_p0 : rv μ r0 2 = some p0) (hw10_p0 : WF10 μ p0) (hw1_r0147 : WF1 μ (r0 + 147)) (hc_perform : ¬ l2 ≤ l5 → Ct X (Rm (d + 3)) mX1_perform [.ref (r0 + 147), .ref (p0 + 1), .int ((((((l4 * 1103515245) + 12345).toUInt32 >>> ((16 : Int32).toUInt32 &&& Int32.toUInt32 31)).toInt32) &&& 32767) - (((((l4 * 1103515245) + 12345).toUInt32 >>> ((16 : Int32).toUInt32 &&& Int32.toUInt32 31)).toInt32) &&& 32767) / 6 * 6), .int (((((((l4 * 1103515245) + 12345).toUInt32 >>> ((16 : Int32).toUInt32 &&& Int32.toUInt32 31)).toInt32) &&& 32767) / 8) - ((((((l4 * 1103515245) + 12345).toUInt32 >>> ((16 : Int32).toUInt32 &&& Int32.toUInt32 31)).toInt32) &&& 32767) / 8) / 3 * 3), .int (((((((l4 * 1103515245) + 12345).toUInt32 >>> ((16 : Int32).toUInt32 &&& Int32.toUInt32 31)).toInt32) &&& 32767) / 32) - ((((((l4 * 1103515245) + 12345).toUInt32 >>> ((16 : Int32).toUInt32 &&& Int32.toUInt32 31)).toInt32) &&& 32767) / 32) / 3 * 3)] μ (fun r μ2 => G X (Rm (d + 4)) mX11_run 82 [(0, .ref r0), (2, .int l2), (3, .int l3), (4, .int ((l4 * 1103515245) + 12345)), (5, .int l5)] (r.toList ++ []) μ2 0 0 K)) : G X (Rm (d + 4)) mX11_run 21 [(0, .ref r0), (2, .int l2), (3, .int l3), (4, .int l4), (5, .int l5)] [] μ 0 0 K := by
  refine G_iload d_X11_run_21 4 rfl ?_
  refine G_iload_n d_X11_run_23 rfl 1 rfl ?_
  refine G_icmp_ge (tgt := 98) d_X11_run_24 rfl (fun c0 => ?_) (fun c0 => ?_)
  ·
    refine G_iload_n d_X11_run_98 rfl 2 rfl ?_
    exact G_iret rfl rfl rfl d_X11_run_99 (hK c0)
  ·
    refine G_iload d_X11_run_27 3 rfl ?_
    refine G_ldc kc_X11_227 d_X11_run_29 ?_
    refine G_imul d_X11_run_31 ?_
    refine G_sipush d_X11_run_32 sp_12345 ?_
    refine G_iadd d_X11_run_35 ?_
    refine G_istore (L' := [(4, .int ((l4 * 1103515245) + 12345)), (0, .ref r0), (2, .int l2), (3, .int l3), (5, .int l5)]) d_X11_run_36 (by decide) rfl ?_
    refine G_iload d_X11_run_38 0 rfl ?_
    refine G_bipush d_X11_run_40 bp_16 ?_
    refine G_iushr (v := (((l4 * 1103515245) + 12345).toUInt32 >>> ((16 : Int32).toUInt32 &&& Int32.toUInt32 31)).toInt32) d_X11_run_42 rfl ?_
    refine G_sipush d_X11_run_43 sp_32767 ?_
    refine G_iand d_X11_run_46 ?_
    refine G_istore (L' := [(6, .int (((((l4 * 1103515245) + 12345).toUInt32 >>> ((16 : Int32).toUInt32 &&& Int32.toUInt32 31)).toInt32) &&& 32767)), (4, .int ((l4 * 1103515245) + 12345)), (0, .ref r0), (2, .int l2), (3, .int l3), (5, .int l5)]) d_X11_run_47 (by decide) rfl ?_
    refine G_aload_n d_X11_run_49 rfl 2 rfl ?_
    refine G_getR (r := r0 + 147) 11 9 (w11_kd hw11_r0) (w11_f9 hw11_r0) cok11 (by decide) rfl fl_X11_54 d_X11_run_50 ?_
    refine G_aload_n d_X11_run_53 rfl 2 rfl ?_
    refine G_getR (r := p0) 11 2 (w11_kd hw11_r0) hr_p0 cok11 (by decide) rfl fl_X11_26 d_X11_run_54 ?_
    refine G_getR (r := p0 + 1) 10 0 (w10_kd hw10_p0) (w10_f0 hw10_p0) cok10 (by decide) rfl fl_X11_114 d_X11_run_57 ?_
    refine G_iload d_X11_run_60 0 rfl ?_
    refine G_bipush d_X11_run_62 bp_6 ?_
    refine G_irem d_X11_run_64 (by decide) ?_
    refine G_iload d_X11_run_65 0 rfl ?_
    refine G_bipush d_X11_run_67 bp_8 ?_
    refine G_idiv d_X11_run_69 (by decide) ?_
    refine G_iconst d_X11_run_70 ic_3 ?_
    refine G_irem d_X11_run_71 (by decide) ?_
    refine G_iload d_X11_run_72 0 rfl ?_
    refine G_bipush d_X11_run_74 bp_32 ?_
    refine G_idiv d_X11_run_76 (by decide) ?_
    refine G_iconst d_X11_run_77 ic_3 ?_
    refine G_irem d_X11_run_78 (by decide) ?_
    refine G_sub (L' := [(0, .ref r0), (2, .int l2), (3, .int l3), (4, .int ((l4 * 1103515245) + 12345)), (5, .int l5)]) [2, 3, 4, 1, 5] rfl ?_
    refine G_callV (M' := mX1_perform) (R' := (Rm (d + 3))) (S := []) [.ref (p0 + 1), .int ((((((l4 * 1103515245) + 12345).toUInt32 >>> ((16 : Int32).toUInt32 &&& Int32.toUInt32 31)).toInt32) &&& 32767) - (((((l4 * 1103515245) + 12345).toUInt32 >>> ((16 : Int32).toUInt32 &&& Int32.toUInt32 31)).toInt32) &&& 32767) / 6 * 6), .int (((((((l4 * 1103515245) + 12345).toUInt32 >>> ((16 : Int32).toUInt32 &&& Int32.toUInt32 31)).toInt32) &&& 32767) / 8) - ((((((l4 * 1103515245) + 12345).toUInt32 >>> ((16 : Int32).toUInt32 &&& Int32.toUInt32 31)).toInt32) &&& 32767) / 8) / 3 * 3), .int (((((((l4 * 1103515245) + 12345).toUInt32 >>> ((16 : Int32).toUInt32 &&& Int32.toUInt32 31)).toInt32) &&& 32767) / 32) - ((((((l4 * 1103515245) + 12345).toUInt32 >>> ((16 : Int32).toUInt32 &&& Int32.toUInt32 31)).toInt32) &&& 32767) / 32) / 3 * 3)] 1 (w1_kd hw1_r0147) cok1 rfl ok_X1_perform ml_X11_210 pn_X1_perform (ru_Rm (by decide)) (Nat.le_of_ble_eq_true rfl) d_X11_run_79 ?_
    exact (hc_perform c0)
theorem b_X11_run_82 {X : cX} {d : Nat} {μ : mM} {K : Option Value → mM → Prop} {r0 : Nat} {l2 : Int32} {i3 : Nat} {l4 : Int32} {l5 : Int32} {v0 : Int32} (h : v0 < 0 → G X (Rm (d + 4)) mX11_run 92 [(0, .ref r0), (2, .int l2), (3, .int (nI i3)), (4, .int l4), (5, .int l5)] [] μ 0 0 K) (h_2 : ¬ v0 < 0 → G X (Rm (d + 4)) mX11_run 92 [(0, .ref r0), (2, .int l2), (3, .int (nI (i3 + 1))), (4, .int l4), (5, .int l5)] [] μ 0 0 K) : G X (Rm (d + 4)) mX11_run 82 [(0, .ref r0), (2, .int l2), (3, .int (nI i3)), (4, .int l4), (5, .int l5)] [.int v0] μ 0 0 K := by
  refine G_istore (L' := [(7, .int v0), (0, .ref r0), (2, .int l2), (3, .int (nI i3)), (4, .int l4), (5, .int l5)]) d_X11_run_82 (by decide) rfl ?_
  refine G_iload d_X11_run_84 0 rfl ?_
  refine G_if_lt (tgt := 92) d_X11_run_86 rfl (fun c0 => ?_) (fun c0 => ?_)
  ·
    refine G_sub (L' := [(0, .ref r0), (2, .int l2), (3, .int (nI i3)), (4, .int l4), (5, .int l5)]) [1, 2, 3, 4, 5] rfl ?_
    exact (h c0)
  ·
    refine G_iinc (L' := [(3, .int (nI (i3 + 1))), (7, .int v0), (0, .ref r0), (2, .int l2), (4, .int l4), (5, .int l5)]) d_X11_run_89 3 rfl (inc1 i3) (by decide) rfl ?_
    refine G_sub (L' := [(0, .ref r0), (2, .int l2), (3, .int (nI (i3 + 1))), (4, .int l4), (5, .int l5)]) [2, 3, 0, 4, 5] rfl ?_
    exact (h_2 c0)
theorem b_X11_run_92 {X : cX} {d : Nat} {μ : mM} {K : Option Value → mM → Prop} {r0 : Nat} {l2 : Int32} {l3 : Int32} {l4 : Int32} {i5 : Nat} (h : G X (Rm (d + 4)) mX11_run 21 [(0, .ref r0), (2, .int l2), (3, .int l3), (4, .int l4), (5, .int (nI (i5 + 1)))] [] μ 0 0 K) : G X (Rm (d + 4)) mX11_run 92 [(0, .ref r0), (2, .int l2), (3, .int l3), (4, .int l4), (5, .int (nI i5))] [] μ 0 0 K := by
  refine G_iinc (L' := [(5, .int (nI (i5 + 1))), (0, .ref r0), (2, .int l2), (3, .int l3), (4, .int l4)]) d_X11_run_92 4 rfl (inc1 i5) (by decide) rfl ?_
  refine G_goto (tgt := 21) d_X11_run_95 rfl ?_
  refine G_sub (L' := [(0, .ref r0), (2, .int l2), (3, .int l3), (4, .int l4), (5, .int (nI (i5 + 1)))]) [1, 2, 3, 4, 0] rfl ?_
  exact h
theorem d_X11_isImage_0 : decode cX11_isImage 0 = .ok (.iload_n 0, 1) := by decide +kernel
theorem d_X11_isImage_1 : decode cX11_isImage 1 = .ok (.ifCond .lt 12, 3) := by decide +kernel
theorem d_X11_isImage_4 : decode cX11_isImage 4 = .ok (.iload_n 0, 1) := by decide +kernel
theorem d_X11_isImage_5 : decode cX11_isImage 5 = .ok (.iconst 2, 1) := by decide +kernel
theorem d_X11_isImage_6 : decode cX11_isImage 6 = .ok (.if_icmp .ge 7, 3) := by decide +kernel
theorem d_X11_isImage_9 : decode cX11_isImage 9 = .ok (.iconst 1, 1) := by decide +kernel
theorem d_X11_isImage_10 : decode cX11_isImage 10 = .ok (.goto 4, 3) := by decide +kernel
theorem d_X11_isImage_13 : decode cX11_isImage 13 = .ok (.iconst 0, 1) := by decide +kernel
theorem d_X11_isImage_14 : decode cX11_isImage 14 = .ok (.ireturn, 1) := by decide +kernel
theorem b_X11_isImage_0 {X : cX} {d : Nat} {μ : mM} {K : Option Value → mM → Prop} {l0 : Int32} (hK : l0 < 0 → K (some (.int 0)) μ) (hK_2 : ¬ l0 < 0 → (2 : Int32) ≤ l0 → K (some (.int 0)) μ) (hK_3 : ¬ l0 < 0 → ¬ (2 : Int32) ≤ l0 → K (some (.int 1)) μ) : G X (Rm d) mX11_isImage 0 [(0, .int l0)] [] μ 0 0 K := by
  refine G_iload_n d_X11_isImage_0 rfl 0 rfl ?_
  refine G_if_lt (tgt := 13) d_X11_isImage_1 rfl (fun c0 => ?_) (fun c0 => ?_)
  ·
    refine G_iconst d_X11_isImage_13 ic_0 ?_
    exact G_zret rfl rfl rfl rfl d_X11_isImage_14 (hK c0)
  ·
    refine G_iload_n d_X11_isImage_4 rfl 0 rfl ?_
    refine G_iconst d_X11_isImage_5 ic_2 ?_
    refine G_icmp_ge (tgt := 13) d_X11_isImage_6 rfl (fun c1 => ?_) (fun c1 => ?_)
    ·
      refine G_iconst d_X11_isImage_13 ic_0 ?_
      exact G_zret rfl rfl rfl rfl d_X11_isImage_14 (hK_2 c0 c1)
    ·
      refine G_iconst d_X11_isImage_9 ic_1 ?_
      refine G_goto (tgt := 14) d_X11_isImage_10 rfl ?_
      exact G_zret rfl rfl rfl rfl d_X11_isImage_14 (hK_3 c0 c1)
def e_X11_isImage (μ : mM) (l0 : Int32) : Int32 := (if l0 < 0 then 0 else (if (2 : Int32) ≤ l0 then 0 else 1))
theorem s_X11_isImage {X : cX} {d : Nat} {μ : mM} {K : Option Value → mM → Prop} {l0 : Int32}  (hK : K (some (.int (e_X11_isImage μ l0))) μ) : Ct X (Rm d) mX11_isImage [.int l0] μ K := Ct_of rfl (Nat.le_of_ble_eq_true rfl) (G_sub [0] rfl (b_X11_isImage_0 (fun c0 => by unfold e_X11_isImage at hK; rw [if_pos c0] at hK; exact hK) (fun c0 c1 => by unfold e_X11_isImage at hK; rw [if_neg c0, if_pos c1] at hK; exact hK) (fun c0 c1 => by unfold e_X11_isImage at hK; rw [if_neg c0, if_neg c1] at hK; exact hK)))
theorem d_X11_keep_0 : decode cX11_keep 0 = .ok (.iload_n 1, 1) := by decide +kernel
theorem d_X11_keep_1 : decode cX11_keep 1 = .ok (.invokestatic 228, 3) := by decide +kernel
theorem d_X11_keep_4 : decode cX11_keep 4 = .ok (.ifCond .ne 5, 3) := by decide +kernel
theorem d_X11_keep_7 : decode cX11_keep 7 = .ok (.iconst (-1), 1) := by decide +kernel
theorem d_X11_keep_8 : decode cX11_keep 8 = .ok (.ireturn, 1) := by decide +kernel
theorem d_X11_keep_9 : decode cX11_keep 9 = .ok (.aload_n 0, 1) := by decide +kernel
theorem d_X11_keep_10 : decode cX11_keep 10 = .ok (.getfield 36, 3) := by decide +kernel
theorem d_X11_keep_13 : decode cX11_keep 13 = .ok (.iload_n 1, 1) := by decide +kernel
theorem d_X11_keep_14 : decode cX11_keep 14 = .ok (.baload, 1) := by decide +kernel
theorem d_X11_keep_15 : decode cX11_keep 15 = .ok (.ifCond .eq 7, 3) := by decide +kernel
theorem d_X11_keep_18 : decode cX11_keep 18 = .ok (.iconst 1, 1) := by decide +kernel
theorem d_X11_keep_19 : decode cX11_keep 19 = .ok (.goto 4, 3) := by decide +kernel
theorem d_X11_keep_22 : decode cX11_keep 22 = .ok (.iconst 0, 1) := by decide +kernel
theorem d_X11_keep_23 : decode cX11_keep 23 = .ok (.istore_n 2, 1) := by decide +kernel
theorem d_X11_keep_24 : decode cX11_keep 24 = .ok (.aload_n 0, 1) := by decide +kernel
theorem d_X11_keep_25 : decode cX11_keep 25 = .ok (.getfield 32, 3) := by decide +kernel
theorem d_X11_keep_28 : decode cX11_keep 28 = .ok (.iload_n 1, 1) := by decide +kernel
theorem d_X11_keep_29 : decode cX11_keep 29 = .ok (.aaload, 1) := by decide +kernel
theorem d_X11_keep_30 : decode cX11_keep 30 = .ok (.aload_n 0, 1) := by decide +kernel
theorem d_X11_keep_31 : decode cX11_keep 31 = .ok (.getfield 26, 3) := by decide +kernel
theorem d_X11_keep_34 : decode cX11_keep 34 = .ok (.getfield 114, 3) := by decide +kernel
theorem d_X11_keep_37 : decode cX11_keep 37 = .ok (.invokevirtual 231, 3) := by decide +kernel
theorem d_X11_keep_40 : decode cX11_keep 40 = .ok (.aload_n 0, 1) := by decide +kernel
theorem d_X11_keep_41 : decode cX11_keep 41 = .ok (.getfield 36, 3) := by decide +kernel
theorem d_X11_keep_44 : decode cX11_keep 44 = .ok (.iload_n 1, 1) := by decide +kernel
theorem d_X11_keep_45 : decode cX11_keep 45 = .ok (.iconst 1, 1) := by decide +kernel
theorem d_X11_keep_46 : decode cX11_keep 46 = .ok (.bastore, 1) := by decide +kernel
theorem d_X11_keep_47 : decode cX11_keep 47 = .ok (.iload_n 2, 1) := by decide +kernel
theorem d_X11_keep_48 : decode cX11_keep 48 = .ok (.ireturn, 1) := by decide +kernel
theorem b_X11_keep_0 {X : cX} {d : Nat} {μ : mM} {K : Option Value → mM → Prop} {r0 : Nat} {i1 : Nat} (hw11_r0 : WF11 μ r0) (hb : ¬ (e_X11_isImage μ (nI i1)) = 0 → i1 < 2) (h : ¬ (e_X11_isImage μ (nI i1)) = 0 → (iv μ (r0 + 121) i1) = 0 → G X (Rm (d + 2)) mX11_keep 23 [(0, .ref r0), (1, .int (nI i1))] [.int 0] μ 0 0 K) (h_2 : ¬ (e_X11_isImage μ (nI i1)) = 0 → ¬ (iv μ (r0 + 121) i1) = 0 → G X (Rm (d + 2)) mX11_keep 23 [(0, .ref r0), (1, .int (nI i1))] [.int 1] μ 0 0 K) (hK : (e_X11_isImage μ (nI i1)) = 0 → K (some (.int (-1))) μ) : G X (Rm (d + 2)) mX11_keep 0 [(0, .ref r0), (1, .int (nI i1))] [] μ 0 0 K := by
  refine G_iload_n d_X11_keep_0 rfl 1 rfl ?_
  refine G_callS (M' := mX11_isImage) (R' := (Rm (d + 1))) (S := []) [.int (nI i1)] ok_X11_isImage ml_X11_228 pn_X11_isImage (ru_Rm (by decide)) (Nat.le_of_ble_eq_true rfl) d_X11_keep_1 (s_X11_isImage (μ := μ)   ?_)
  show G X (Rm (d + 2)) mX11_keep 4 [(0, .ref r0), (1, .int (nI i1))] [.int (e_X11_isImage μ (nI i1))] μ 0 0 K
  refine G_if_ne (tgt := 9) d_X11_keep_4 rfl (fun c0 => ?_) (fun c0 => ?_)
  ·
    refine G_aload_n d_X11_keep_9 rfl 0 rfl ?_
    refine G_getR (r := r0 + 121) 11 5 (w11_kd hw11_r0) (w11_f5 hw11_r0) cok11 (by decide) rfl fl_X11_36 d_X11_keep_10 ?_
    refine G_iload_n d_X11_keep_13 rfl 1 rfl ?_
    refine G_zald i1 (w11_k5 hw11_r0) rfl (hb c0) d_X11_keep_14 ?_
    refine G_if_eq (tgt := 22) d_X11_keep_15 rfl (fun c1 => ?_) (fun c1 => ?_)
    ·
      refine G_iconst d_X11_keep_22 ic_0 ?_
      exact (h c0 c1)
    ·
      refine G_iconst d_X11_keep_18 ic_1 ?_
      refine G_goto (tgt := 23) d_X11_keep_19 rfl ?_
      exact (h_2 c0 c1)
  ·
    refine G_iconst d_X11_keep_7 ic_m1 ?_
    exact G_iret rfl rfl rfl d_X11_keep_8 (hK c0)
theorem b_X11_keep_23 {X : cX} {d : Nat} {μ : mM} {K : Option Value → mM → Prop} {r0 : Nat} {i1 : Nat} {v0 : Int32} {p0 : Nat} (hw11_r0 : WF11 μ r0) (hb : i1 < 2) (hr_p0 : rv μ r0 2 = some p0) (hw10_p0 : WF10 μ p0) (hw5_r020424i1 : WF5 μ (r0 + 204 + 24 * i1)) (hc_copy : Ct X (Rm (d + 1)) mX5_copy [.ref (r0 + 204 + 24 * i1), .ref (p0 + 1)] μ (fun r μ2 => G X (Rm (d + 2)) mX11_keep 40 [(0, .ref r0), (1, .int (nI i1)), (2, .int v0)] (r.toList ++ []) μ2 0 0 K)) : G X (Rm (d + 2)) mX11_keep 23 [(0, .ref r0), (1, .int (nI i1))] [.int v0] μ 0 0 K := by
  refine G_istore_n (L' := [(2, .int v0), (0, .ref r0), (1, .int (nI i1))]) d_X11_keep_23 rfl (by decide) rfl ?_
  refine G_aload_n d_X11_keep_24 rfl 1 rfl ?_
  refine G_getR (r := r0 + 120) 11 4 (w11_kd hw11_r0) (w11_f4 hw11_r0) cok11 (by decide) rfl fl_X11_32 d_X11_keep_25 ?_
  refine G_iload_n d_X11_keep_28 rfl 2 rfl ?_
  refine G_aaldS (r := r0 + 204 + 24 * i1) i1 (w11_k4 hw11_r0) rfl hb (w11_r4 hw11_r0 i1 hb) d_X11_keep_29 ?_
  refine G_aload_n d_X11_keep_30 rfl 1 rfl ?_
  refine G_getR (r := p0) 11 2 (w11_kd hw11_r0) hr_p0 cok11 (by decide) rfl fl_X11_26 d_X11_keep_31 ?_
  refine G_getR (r := p0 + 1) 10 0 (w10_kd hw10_p0) (w10_f0 hw10_p0) cok10 (by decide) rfl fl_X11_114 d_X11_keep_34 ?_
  refine G_sub (L' := [(0, .ref r0), (1, .int (nI i1)), (2, .int v0)]) [1, 2, 0] rfl ?_
  refine G_callV (M' := mX5_copy) (R' := (Rm (d + 1))) (S := []) [.ref (p0 + 1)] 5 (w5_kd hw5_r020424i1) cok5 rfl ok_X5_copy ml_X11_231 pn_X5_copy (ru_Rm (by decide)) (Nat.le_of_ble_eq_true rfl) d_X11_keep_37 ?_
  exact hc_copy
theorem b_X11_keep_40 {X : cX} {d : Nat} {μ : mM} {K : Option Value → mM → Prop} {r0 : Nat} {i1 : Nat} {l2 : Int32} (hw11_r0 : WF11 μ r0) (hb : i1 < 2) (hK : K (some (.int l2)) (wi μ (r0 + 121) i1 1)) : G X (Rm (d + 2)) mX11_keep 40 [(0, .ref r0), (1, .int (nI i1)), (2, .int l2)] [] μ 0 0 K := by
  refine G_aload_n d_X11_keep_40 rfl 0 rfl ?_
  refine G_getR (r := r0 + 121) 11 5 (w11_kd hw11_r0) (w11_f5 hw11_r0) cok11 (by decide) rfl fl_X11_36 d_X11_keep_41 ?_
  refine G_iload_n d_X11_keep_44 rfl 1 rfl ?_
  refine G_iconst d_X11_keep_45 ic_1 ?_
  refine G_zast (v := 1) i1 (w11_k5 hw11_r0) rfl hb rfl d_X11_keep_46 ?_
  refine G_iload_n d_X11_keep_47 rfl 2 rfl ?_
  exact G_iret rfl rfl rfl d_X11_keep_48 hK
theorem d_X11_back_0 : decode cX11_back 0 = .ok (.iload_n 1, 1) := by decide +kernel
theorem d_X11_back_1 : decode cX11_back 1 = .ok (.invokestatic 228, 3) := by decide +kernel
theorem d_X11_back_4 : decode cX11_back 4 = .ok (.ifCond .ne 5, 3) := by decide +kernel
theorem d_X11_back_7 : decode cX11_back 7 = .ok (.iconst (-1), 1) := by decide +kernel
theorem d_X11_back_8 : decode cX11_back 8 = .ok (.ireturn, 1) := by decide +kernel
theorem d_X11_back_9 : decode cX11_back 9 = .ok (.aload_n 0, 1) := by decide +kernel
theorem d_X11_back_10 : decode cX11_back 10 = .ok (.getfield 36, 3) := by decide +kernel
theorem d_X11_back_13 : decode cX11_back 13 = .ok (.iload_n 1, 1) := by decide +kernel
theorem d_X11_back_14 : decode cX11_back 14 = .ok (.baload, 1) := by decide +kernel
theorem d_X11_back_15 : decode cX11_back 15 = .ok (.ifCond .ne 6, 3) := by decide +kernel
theorem d_X11_back_18 : decode cX11_back 18 = .ok (.bipush (-2), 2) := by decide +kernel
theorem d_X11_back_20 : decode cX11_back 20 = .ok (.ireturn, 1) := by decide +kernel
theorem d_X11_back_21 : decode cX11_back 21 = .ok (.aload_n 0, 1) := by decide +kernel
theorem d_X11_back_22 : decode cX11_back 22 = .ok (.getfield 26, 3) := by decide +kernel
theorem d_X11_back_25 : decode cX11_back 25 = .ok (.getfield 114, 3) := by decide +kernel
theorem d_X11_back_28 : decode cX11_back 28 = .ok (.aload_n 0, 1) := by decide +kernel
theorem d_X11_back_29 : decode cX11_back 29 = .ok (.getfield 32, 3) := by decide +kernel
theorem d_X11_back_32 : decode cX11_back 32 = .ok (.iload_n 1, 1) := by decide +kernel
theorem d_X11_back_33 : decode cX11_back 33 = .ok (.aaload, 1) := by decide +kernel
theorem d_X11_back_34 : decode cX11_back 34 = .ok (.invokevirtual 231, 3) := by decide +kernel
theorem d_X11_back_37 : decode cX11_back 37 = .ok (.aload_n 0, 1) := by decide +kernel
theorem d_X11_back_38 : decode cX11_back 38 = .ok (.getfield 26, 3) := by decide +kernel
theorem d_X11_back_41 : decode cX11_back 41 = .ok (.getfield 114, 3) := by decide +kernel
theorem d_X11_back_44 : decode cX11_back 44 = .ok (.getfield 117, 3) := by decide +kernel
theorem d_X11_back_47 : decode cX11_back 47 = .ok (.ireturn, 1) := by decide +kernel
theorem b_X11_back_0 {X : cX} {d : Nat} {μ : mM} {K : Option Value → mM → Prop} {r0 : Nat} {i1 : Nat} {p0 : Nat} (hw11_r0 : WF11 μ r0) (hb : ¬ (e_X11_isImage μ (nI i1)) = 0 → i1 < 2) (hr_p0 : rv μ r0 2 = some p0) (hw10_p0 : WF10 μ p0) (hb_2 : ¬ (e_X11_isImage μ (nI i1)) = 0 → ¬ (iv μ (r0 + 121) i1) = 0 → i1 < 2) (hw5_p01 : WF5 μ (p0 + 1)) (hc_copy : ¬ (e_X11_isImage μ (nI i1)) = 0 → ¬ (iv μ (r0 + 121) i1) = 0 → Ct X (Rm (d + 1)) mX5_copy [.ref (p0 + 1), .ref (r0 + 204 + 24 * i1)] μ (fun r μ2 => G X (Rm (d + 2)) mX11_back 37 [(0, .ref r0)] (r.toList ++ []) μ2 0 0 K)) (hK : ¬ (e_X11_isImage μ (nI i1)) = 0 → (iv μ (r0 + 121) i1) = 0 → K (some (.int (-2))) μ) (hK_2 : (e_X11_isImage μ (nI i1)) = 0 → K (some (.int (-1))) μ) : G X (Rm (d + 2)) mX11_back 0 [(0, .ref r0), (1, .int (nI i1))] [] μ 0 0 K := by
  refine G_iload_n d_X11_back_0 rfl 1 rfl ?_
  refine G_callS (M' := mX11_isImage) (R' := (Rm (d + 1))) (S := []) [.int (nI i1)] ok_X11_isImage ml_X11_228 pn_X11_isImage (ru_Rm (by decide)) (Nat.le_of_ble_eq_true rfl) d_X11_back_1 (s_X11_isImage (μ := μ)   ?_)
  show G X (Rm (d + 2)) mX11_back 4 [(0, .ref r0), (1, .int (nI i1))] [.int (e_X11_isImage μ (nI i1))] μ 0 0 K
  refine G_if_ne (tgt := 9) d_X11_back_4 rfl (fun c0 => ?_) (fun c0 => ?_)
  ·
    refine G_aload_n d_X11_back_9 rfl 0 rfl ?_
    refine G_getR (r := r0 + 121) 11 5 (w11_kd hw11_r0) (w11_f5 hw11_r0) cok11 (by decide) rfl fl_X11_36 d_X11_back_10 ?_
    refine G_iload_n d_X11_back_13 rfl 1 rfl ?_
    refine G_zald i1 (w11_k5 hw11_r0) rfl (hb c0) d_X11_back_14 ?_
    refine G_if_ne (tgt := 21) d_X11_back_15 rfl (fun c1 => ?_) (fun c1 => ?_)
    ·
      refine G_aload_n d_X11_back_21 rfl 0 rfl ?_
      refine G_getR (r := p0) 11 2 (w11_kd hw11_r0) hr_p0 cok11 (by decide) rfl fl_X11_26 d_X11_back_22 ?_
      refine G_getR (r := p0 + 1) 10 0 (w10_kd hw10_p0) (w10_f0 hw10_p0) cok10 (by decide) rfl fl_X11_114 d_X11_back_25 ?_
      refine G_aload_n d_X11_back_28 rfl 0 rfl ?_
      refine G_getR (r := r0 + 120) 11 4 (w11_kd hw11_r0) (w11_f4 hw11_r0) cok11 (by decide) rfl fl_X11_32 d_X11_back_29 ?_
      refine G_iload_n d_X11_back_32 rfl 1 rfl ?_
      refine G_aaldS (r := r0 + 204 + 24 * i1) i1 (w11_k4 hw11_r0) rfl (hb_2 c0 c1) (w11_r4 hw11_r0 i1 (hb_2 c0 c1)) d_X11_back_33 ?_
      refine G_sub (L' := [(0, .ref r0)]) [0] rfl ?_
      refine G_callV (M' := mX5_copy) (R' := (Rm (d + 1))) (S := []) [.ref (r0 + 204 + 24 * i1)] 5 (w5_kd hw5_p01) cok5 rfl ok_X5_copy ml_X11_231 pn_X5_copy (ru_Rm (by decide)) (Nat.le_of_ble_eq_true rfl) d_X11_back_34 ?_
      exact (hc_copy c0 c1)
    ·
      refine G_bipush d_X11_back_18 bp_m2 ?_
      exact G_iret rfl rfl rfl d_X11_back_20 (hK c0 c1)
  ·
    refine G_iconst d_X11_back_7 ic_m1 ?_
    exact G_iret rfl rfl rfl d_X11_back_8 (hK_2 c0)
theorem b_X11_back_37 {X : cX} {d : Nat} {μ : mM} {K : Option Value → mM → Prop} {r0 : Nat} {p0 : Nat} (hw11_r0 : WF11 μ r0) (hr_p0 : rv μ r0 2 = some p0) (hw10_p0 : WF10 μ p0) (hw5_p01 : WF5 μ (p0 + 1)) (hK : K (some (.int (iv μ (p0 + 1) 0))) μ) : G X (Rm (d + 2)) mX11_back 37 [(0, .ref r0)] [] μ 0 0 K := by
  refine G_aload_n d_X11_back_37 rfl 0 rfl ?_
  refine G_getR (r := p0) 11 2 (w11_kd hw11_r0) hr_p0 cok11 (by decide) rfl fl_X11_26 d_X11_back_38 ?_
  refine G_getR (r := p0 + 1) 10 0 (w10_kd hw10_p0) (w10_f0 hw10_p0) cok10 (by decide) rfl fl_X11_114 d_X11_back_41 ?_
  refine G_getI 5 0 (w5_kd hw5_p01) cok5 (by decide) rfl fl_X11_117 d_X11_back_44 ?_
  exact G_iret rfl rfl rfl d_X11_back_47 hK
