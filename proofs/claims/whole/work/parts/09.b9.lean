theorem d_X5_copy_0 : decode cX5_copy 0 = .ok (.aload_n 0, 1) := by decide +kernel
theorem d_X5_copy_1 : decode cX5_copy 1 = .ok (.aload_n 1, 1) := by decide +kernel
theorem d_X5_copy_2 : decode cX5_copy 2 = .ok (.getfield 29, 3) := by decide +kernel
theorem d_X5_copy_5 : decode cX5_copy 5 = .ok (.putfield 29, 3) := by decide +kernel
theorem d_X5_copy_8 : decode cX5_copy 8 = .ok (.iconst 0, 1) := by decide +kernel
theorem d_X5_copy_9 : decode cX5_copy 9 = .ok (.istore_n 2, 1) := by decide +kernel
theorem d_X5_copy_10 : decode cX5_copy 10 = .ok (.iload_n 2, 1) := by decide +kernel
theorem d_X5_copy_11 : decode cX5_copy 11 = .ok (.iconst 3, 1) := by decide +kernel
theorem d_X5_copy_12 : decode cX5_copy 12 = .ok (.if_icmp .ge 28, 3) := by decide +kernel
theorem d_X5_copy_15 : decode cX5_copy 15 = .ok (.aload_n 1, 1) := by decide +kernel
theorem d_X5_copy_16 : decode cX5_copy 16 = .ok (.getfield 17, 3) := by decide +kernel
theorem d_X5_copy_19 : decode cX5_copy 19 = .ok (.iload_n 2, 1) := by decide +kernel
theorem d_X5_copy_20 : decode cX5_copy 20 = .ok (.aaload, 1) := by decide +kernel
theorem d_X5_copy_21 : decode cX5_copy 21 = .ok (.iconst 0, 1) := by decide +kernel
theorem d_X5_copy_22 : decode cX5_copy 22 = .ok (.aload_n 0, 1) := by decide +kernel
theorem d_X5_copy_23 : decode cX5_copy 23 = .ok (.getfield 17, 3) := by decide +kernel
theorem d_X5_copy_26 : decode cX5_copy 26 = .ok (.iload_n 2, 1) := by decide +kernel
theorem d_X5_copy_27 : decode cX5_copy 27 = .ok (.aaload, 1) := by decide +kernel
theorem d_X5_copy_28 : decode cX5_copy 28 = .ok (.iconst 0, 1) := by decide +kernel
theorem d_X5_copy_29 : decode cX5_copy 29 = .ok (.bipush 6, 2) := by decide +kernel
theorem d_X5_copy_31 : decode cX5_copy 31 = .ok (.invokestatic 39, 3) := by decide +kernel
theorem d_X5_copy_34 : decode cX5_copy 34 = .ok (.iinc 2 1, 3) := by decide +kernel
theorem d_X5_copy_37 : decode cX5_copy 37 = .ok (.goto (-27), 3) := by decide +kernel
theorem d_X5_copy_40 : decode cX5_copy 40 = .ok (.iconst 0, 1) := by decide +kernel
theorem d_X5_copy_41 : decode cX5_copy 41 = .ok (.istore_n 2, 1) := by decide +kernel
theorem d_X5_copy_42 : decode cX5_copy 42 = .ok (.iload_n 2, 1) := by decide +kernel
theorem d_X5_copy_43 : decode cX5_copy 43 = .ok (.bipush 6, 2) := by decide +kernel
theorem d_X5_copy_45 : decode cX5_copy 45 = .ok (.if_icmp .ge 40, 3) := by decide +kernel
theorem d_X5_copy_48 : decode cX5_copy 48 = .ok (.aload_n 0, 1) := by decide +kernel
theorem d_X5_copy_49 : decode cX5_copy 49 = .ok (.getfield 9, 3) := by decide +kernel
theorem d_X5_copy_52 : decode cX5_copy 52 = .ok (.iload_n 2, 1) := by decide +kernel
theorem d_X5_copy_53 : decode cX5_copy 53 = .ok (.aload_n 1, 1) := by decide +kernel
theorem d_X5_copy_54 : decode cX5_copy 54 = .ok (.getfield 9, 3) := by decide +kernel
theorem d_X5_copy_57 : decode cX5_copy 57 = .ok (.iload_n 2, 1) := by decide +kernel
theorem d_X5_copy_58 : decode cX5_copy 58 = .ok (.baload, 1) := by decide +kernel
theorem d_X5_copy_59 : decode cX5_copy 59 = .ok (.bastore, 1) := by decide +kernel
theorem d_X5_copy_60 : decode cX5_copy 60 = .ok (.aload_n 1, 1) := by decide +kernel
theorem d_X5_copy_61 : decode cX5_copy 61 = .ok (.getfield 20, 3) := by decide +kernel
theorem d_X5_copy_64 : decode cX5_copy 64 = .ok (.iload_n 2, 1) := by decide +kernel
theorem d_X5_copy_65 : decode cX5_copy 65 = .ok (.aaload, 1) := by decide +kernel
theorem d_X5_copy_66 : decode cX5_copy 66 = .ok (.iconst 0, 1) := by decide +kernel
theorem d_X5_copy_67 : decode cX5_copy 67 = .ok (.aload_n 0, 1) := by decide +kernel
theorem d_X5_copy_68 : decode cX5_copy 68 = .ok (.getfield 20, 3) := by decide +kernel
theorem d_X5_copy_71 : decode cX5_copy 71 = .ok (.iload_n 2, 1) := by decide +kernel
theorem d_X5_copy_72 : decode cX5_copy 72 = .ok (.aaload, 1) := by decide +kernel
theorem d_X5_copy_73 : decode cX5_copy 73 = .ok (.iconst 0, 1) := by decide +kernel
theorem d_X5_copy_74 : decode cX5_copy 74 = .ok (.bipush 6, 2) := by decide +kernel
theorem d_X5_copy_76 : decode cX5_copy 76 = .ok (.invokestatic 39, 3) := by decide +kernel
theorem d_X5_copy_79 : decode cX5_copy 79 = .ok (.iinc 2 1, 3) := by decide +kernel
theorem d_X5_copy_82 : decode cX5_copy 82 = .ok (.goto (-40), 3) := by decide +kernel
theorem d_X5_copy_85 : decode cX5_copy 85 = .ok (.return_, 1) := by decide +kernel
theorem b_X5_copy_0 {X : cX} {d : Nat} {μ : mM} {K : Option Value → mM → Prop} {r0 : Nat} {r1 : Nat} (hw5_r1 : WF5 μ r1) (hw5_r0 : WF5 μ r0) (h : G X (Rm (d + 1)) mX5_copy 10 [(0, .ref r0), (1, .ref r1), (2, .int (nI 0))] [] (wi μ r0 0 (iv μ r1 0)) 0 0 K) : G X (Rm (d + 1)) mX5_copy 0 [(0, .ref r0), (1, .ref r1)] [] μ 0 0 K := by
  refine G_aload_n d_X5_copy_0 rfl 0 rfl ?_
  refine G_aload_n d_X5_copy_1 rfl 1 rfl ?_
  refine G_getI 5 0 (w5_kd hw5_r1) cok5 (by decide) rfl fl_X5_29 d_X5_copy_2 ?_
  refine G_putI 5 0 (w5_kd hw5_r0) rfl rfl cok5 (by decide) rfl (Or.inl rfl) fl_X5_29 d_X5_copy_5 ?_
  refine G_iconst d_X5_copy_8 ic_0 ?_
  refine G_istore_n (L' := [(2, .int (nI 0)), (0, .ref r0), (1, .ref r1)]) d_X5_copy_9 rfl (by decide) rfl ?_
  refine G_sub (L' := [(0, .ref r0), (1, .ref r1), (2, .int (nI 0))]) [1, 2, 0] rfl ?_
  exact h
theorem b_X5_copy_10 {X : cX} {d : Nat} {μ : mM} {K : Option Value → mM → Prop} {r0 : Nat} {r1 : Nat} {i2 : Nat} (h : (3 : Int32) ≤ (nI i2) → G X (Rm (d + 1)) mX5_copy 42 [(0, .ref r0), (1, .ref r1), (2, .int (nI 0))] [] μ 0 0 K) (hw5_r1 : WF5 μ r1) (hb : ¬ (3 : Int32) ≤ (nI i2) → i2 < 3) (hw5_r0 : WF5 μ r0) (h_2 : ¬ (3 : Int32) ≤ (nI i2) → G X (Rm (d + 1)) mX5_copy 10 [(0, .ref r0), (1, .ref r1), (2, .int (nI (i2 + 1)))] [] (cpI μ (r1 + 3 + i2) 0 (r0 + 3 + i2) 0 6) 0 0 K) : G X (Rm (d + 1)) mX5_copy 10 [(0, .ref r0), (1, .ref r1), (2, .int (nI i2))] [] μ 0 0 K := by
  refine G_iload_n d_X5_copy_10 rfl 2 rfl ?_
  refine G_iconst d_X5_copy_11 ic_3 ?_
  refine G_icmp_ge (tgt := 40) d_X5_copy_12 rfl (fun c0 => ?_) (fun c0 => ?_)
  ·
    refine G_iconst d_X5_copy_40 ic_0 ?_
    refine G_istore_n (L' := [(2, .int (nI 0)), (0, .ref r0), (1, .ref r1)]) d_X5_copy_41 rfl (by decide) rfl ?_
    refine G_sub (L' := [(0, .ref r0), (1, .ref r1), (2, .int (nI 0))]) [1, 2, 0] rfl ?_
    exact (h c0)
  ·
    refine G_aload_n d_X5_copy_15 rfl 1 rfl ?_
    refine G_getR (r := r1 + 2) 5 2 (w5_kd hw5_r1) (w5_f2 hw5_r1) cok5 (by decide) rfl fl_X5_17 d_X5_copy_16 ?_
    refine G_iload_n d_X5_copy_19 rfl 2 rfl ?_
    refine G_aaldA (r := r1 + 3 + i2) i2 (w5_k2 hw5_r1) rfl (hb c0) (w5_r2 hw5_r1 i2 (hb c0)) d_X5_copy_20 ?_
    refine G_iconst d_X5_copy_21 ic_0 ?_
    refine G_aload_n d_X5_copy_22 rfl 0 rfl ?_
    refine G_getR (r := r0 + 2) 5 2 (w5_kd hw5_r0) (w5_f2 hw5_r0) cok5 (by decide) rfl fl_X5_17 d_X5_copy_23 ?_
    refine G_iload_n d_X5_copy_26 rfl 2 rfl ?_
    refine G_aaldA (r := r0 + 3 + i2) i2 (w5_k2 hw5_r0) rfl (hb c0) (w5_r2 hw5_r0 i2 (hb c0)) d_X5_copy_27 ?_
    refine G_iconst d_X5_copy_28 ic_0 ?_
    refine G_bipush d_X5_copy_29 bp_6 ?_
    refine G_copy (sp := 0) (dp := 0) (n := 6) (w5_q2 hw5_r1 i2 (hb c0)) (w5_q2 hw5_r0 i2 (hb c0)) rfl rfl rfl (by decide) (by decide) ml_X5_39 rb_Rm (Nat.le_of_ble_eq_true rfl) d_X5_copy_31 ?_
    refine G_iinc (L' := [(2, .int (nI (i2 + 1))), (0, .ref r0), (1, .ref r1)]) d_X5_copy_34 2 rfl (inc1 i2) (by decide) rfl ?_
    refine G_goto (tgt := 10) d_X5_copy_37 rfl ?_
    refine G_sub (L' := [(0, .ref r0), (1, .ref r1), (2, .int (nI (i2 + 1)))]) [1, 2, 0] rfl ?_
    exact (h_2 c0)
theorem b_X5_copy_42 {X : cX} {d : Nat} {μ : mM} {K : Option Value → mM → Prop} {r0 : Nat} {r1 : Nat} {i2 : Nat} (hK : (6 : Int32) ≤ (nI i2) → K none μ) (hw5_r0 : WF5 μ r0) (hw5_r1 : WF5 μ r1) (hb : ¬ (6 : Int32) ≤ (nI i2) → i2 < 6) (hz : ¬ (6 : Int32) ≤ (nI i2) → iv μ (r1 + 1) i2 = 0 ∨ iv μ (r1 + 1) i2 = 1) (h : ¬ (6 : Int32) ≤ (nI i2) → G X (Rm (d + 1)) mX5_copy 42 [(0, .ref r0), (1, .ref r1), (2, .int (nI (i2 + 1)))] [] (cpI (wi μ (r0 + 1) i2 (iv μ (r1 + 1) i2)) (r1 + 7 + i2) 0 (r0 + 7 + i2) 0 6) 0 0 K) : G X (Rm (d + 1)) mX5_copy 42 [(0, .ref r0), (1, .ref r1), (2, .int (nI i2))] [] μ 0 0 K := by
  refine G_iload_n d_X5_copy_42 rfl 2 rfl ?_
  refine G_bipush d_X5_copy_43 bp_6 ?_
  refine G_icmp_ge (tgt := 85) d_X5_copy_45 rfl (fun c0 => ?_) (fun c0 => ?_)
  ·
    exact G_vret rfl rfl rfl d_X5_copy_85 (hK c0)
  ·
    refine G_aload_n d_X5_copy_48 rfl 0 rfl ?_
    refine G_getR (r := r0 + 1) 5 1 (w5_kd hw5_r0) (w5_f1 hw5_r0) cok5 (by decide) rfl fl_X5_9 d_X5_copy_49 ?_
    refine G_iload_n d_X5_copy_52 rfl 2 rfl ?_
    refine G_aload_n d_X5_copy_53 rfl 1 rfl ?_
    refine G_getR (r := r1 + 1) 5 1 (w5_kd hw5_r1) (w5_f1 hw5_r1) cok5 (by decide) rfl fl_X5_9 d_X5_copy_54 ?_
    refine G_iload_n d_X5_copy_57 rfl 2 rfl ?_
    refine G_zald i2 (w5_k1 hw5_r1) rfl (hb c0) d_X5_copy_58 ?_
    refine G_zast (v := iv μ (r1 + 1) i2) i2 (w5_k1 hw5_r0) rfl (hb c0) (vpn_b (hz c0)) d_X5_copy_59 ?_
    refine G_aload_n d_X5_copy_60 rfl 1 rfl ?_
    refine G_getR (r := r1 + 6) 5 3 (w5_kd hw5_r1) (w5_f3 hw5_r1) cok5 (by decide) rfl fl_X5_20 d_X5_copy_61 ?_
    refine G_iload_n d_X5_copy_64 rfl 2 rfl ?_
    refine G_aaldA (r := r1 + 7 + i2) i2 (w5_k3 hw5_r1) rfl (hb c0) (w5_r3 hw5_r1 i2 (hb c0)) d_X5_copy_65 ?_
    refine G_iconst d_X5_copy_66 ic_0 ?_
    refine G_aload_n d_X5_copy_67 rfl 0 rfl ?_
    refine G_getR (r := r0 + 6) 5 3 (w5_kd hw5_r0) (w5_f3 hw5_r0) cok5 (by decide) rfl fl_X5_20 d_X5_copy_68 ?_
    refine G_iload_n d_X5_copy_71 rfl 2 rfl ?_
    refine G_aaldA (r := r0 + 7 + i2) i2 (w5_k3 hw5_r0) rfl (hb c0) (w5_r3 hw5_r0 i2 (hb c0)) d_X5_copy_72 ?_
    refine G_iconst d_X5_copy_73 ic_0 ?_
    refine G_bipush d_X5_copy_74 bp_6 ?_
    refine G_copy (sp := 0) (dp := 0) (n := 6) (w5_q3 hw5_r1 i2 (hb c0)) (w5_q3 hw5_r0 i2 (hb c0)) rfl rfl rfl (by decide) (by decide) ml_X5_39 rb_Rm (Nat.le_of_ble_eq_true rfl) d_X5_copy_76 ?_
    refine G_iinc (L' := [(2, .int (nI (i2 + 1))), (0, .ref r0), (1, .ref r1)]) d_X5_copy_79 2 rfl (inc1 i2) (by decide) rfl ?_
    refine G_goto (tgt := 42) d_X5_copy_82 rfl ?_
    refine G_sub (L' := [(0, .ref r0), (1, .ref r1), (2, .int (nI (i2 + 1)))]) [1, 2, 0] rfl ?_
    exact (h c0)
theorem d_X2_apply_0 : decode cX2_apply 0 = .ok (.aload_n 1, 1) := by decide +kernel
theorem d_X2_apply_1 : decode cX2_apply 1 = .ok (.invokevirtual 22, 3) := by decide +kernel
theorem d_X2_apply_4 : decode cX2_apply 4 = .ok (.aload_n 0, 1) := by decide +kernel
theorem d_X2_apply_5 : decode cX2_apply 5 = .ok (.getfield 12, 3) := by decide +kernel
theorem d_X2_apply_8 : decode cX2_apply 8 = .ok (.invokevirtual 25, 3) := by decide +kernel
theorem d_X2_apply_11 : decode cX2_apply 11 = .ok (.iconst 0, 1) := by decide +kernel
theorem d_X2_apply_12 : decode cX2_apply 12 = .ok (.istore_n 3, 1) := by decide +kernel
theorem d_X2_apply_13 : decode cX2_apply 13 = .ok (.iload_n 3, 1) := by decide +kernel
theorem d_X2_apply_14 : decode cX2_apply 14 = .ok (.aload_n 1, 1) := by decide +kernel
theorem d_X2_apply_15 : decode cX2_apply 15 = .ok (.getfield 28, 3) := by decide +kernel
theorem d_X2_apply_18 : decode cX2_apply 18 = .ok (.if_icmp .ge 16, 3) := by decide +kernel
theorem d_X2_apply_21 : decode cX2_apply 21 = .ok (.aload_n 0, 1) := by decide +kernel
theorem d_X2_apply_22 : decode cX2_apply 22 = .ok (.aload_n 1, 1) := by decide +kernel
theorem d_X2_apply_23 : decode cX2_apply 23 = .ok (.iload_n 2, 1) := by decide +kernel
theorem d_X2_apply_24 : decode cX2_apply 24 = .ok (.iload_n 3, 1) := by decide +kernel
theorem d_X2_apply_25 : decode cX2_apply 25 = .ok (.invokevirtual 32, 3) := by decide +kernel
theorem d_X2_apply_28 : decode cX2_apply 28 = .ok (.iinc 3 1, 3) := by decide +kernel
theorem d_X2_apply_31 : decode cX2_apply 31 = .ok (.goto (-18), 3) := by decide +kernel
theorem d_X2_apply_34 : decode cX2_apply 34 = .ok (.aload_n 0, 1) := by decide +kernel
theorem d_X2_apply_35 : decode cX2_apply 35 = .ok (.aload_n 1, 1) := by decide +kernel
theorem d_X2_apply_36 : decode cX2_apply 36 = .ok (.invokevirtual 36, 3) := by decide +kernel
theorem d_X2_apply_39 : decode cX2_apply 39 = .ok (.aload_n 1, 1) := by decide +kernel
theorem d_X2_apply_40 : decode cX2_apply 40 = .ok (.aload_n 0, 1) := by decide +kernel
theorem d_X2_apply_41 : decode cX2_apply 41 = .ok (.getfield 12, 3) := by decide +kernel
theorem d_X2_apply_44 : decode cX2_apply 44 = .ok (.invokevirtual 40, 3) := by decide +kernel
theorem d_X2_apply_47 : decode cX2_apply 47 = .ok (.return_, 1) := by decide +kernel
theorem b_X2_apply_0 {X : cX} {d : Nat} {μ : mM} {K : Option Value → mM → Prop} {r0 : Nat} {r1 : Nat} {l2 : Int32} (hw5_r1 : WF5 μ r1) (hc_trace : Ct X (Rm (d + 2)) mX5_trace [.ref r1] μ (fun r μ2 => G X (Rm (d + 3)) mX2_apply 4 [(0, .ref r0), (1, .ref r1), (2, .int l2)] (r.toList ++ []) μ2 0 0 K)) : G X (Rm (d + 3)) mX2_apply 0 [(0, .ref r0), (1, .ref r1), (2, .int l2)] [] μ 0 0 K := by
  refine G_aload_n d_X2_apply_0 rfl 1 rfl ?_
  refine G_callV (M' := mX5_trace) (R' := (Rm (d + 2))) (S := []) [] 5 (w5_kd hw5_r1) cok5 rfl ok_X5_trace ml_X2_22 pn_X5_trace (ru_Rm (by decide)) (Nat.le_of_ble_eq_true rfl) d_X2_apply_1 ?_
  exact hc_trace
theorem b_X2_apply_4 {X : cX} {d : Nat} {μ : mM} {K : Option Value → mM → Prop} {r0 : Nat} {r1 : Nat} {l2 : Int32} (hw2_r0 : WF2 μ r0) (hw5_r01 : WF5 μ (r0 + 1)) (hc_clear : Ct X (Rm (d + 2)) mX5_clear [.ref (r0 + 1)] μ (fun r μ2 => G X (Rm (d + 3)) mX2_apply 11 [(0, .ref r0), (1, .ref r1), (2, .int l2)] (r.toList ++ []) μ2 0 0 K)) : G X (Rm (d + 3)) mX2_apply 4 [(0, .ref r0), (1, .ref r1), (2, .int l2)] [] μ 0 0 K := by
  refine G_aload_n d_X2_apply_4 rfl 0 rfl ?_
  refine G_getR (r := r0 + 1) 2 0 (w2_kd hw2_r0) (w2_f0 hw2_r0) cok2 (by decide) rfl fl_X2_12 d_X2_apply_5 ?_
  refine G_callV (M' := mX5_clear) (R' := (Rm (d + 2))) (S := []) [] 5 (w5_kd hw5_r01) cok5 rfl ok_X5_clear ml_X2_25 pn_X5_clear (ru_Rm (by decide)) (Nat.le_of_ble_eq_true rfl) d_X2_apply_8 ?_
  exact hc_clear
theorem b_X2_apply_11 {X : cX} {d : Nat} {μ : mM} {K : Option Value → mM → Prop} {r0 : Nat} {r1 : Nat} {l2 : Int32} (h : G X (Rm (d + 3)) mX2_apply 13 [(0, .ref r0), (1, .ref r1), (2, .int l2), (3, .int (nI 0))] [] μ 0 0 K) : G X (Rm (d + 3)) mX2_apply 11 [(0, .ref r0), (1, .ref r1), (2, .int l2)] [] μ 0 0 K := by
  refine G_iconst d_X2_apply_11 ic_0 ?_
  refine G_istore_n (L' := [(3, .int (nI 0)), (0, .ref r0), (1, .ref r1), (2, .int l2)]) d_X2_apply_12 rfl (by decide) rfl ?_
  refine G_sub (L' := [(0, .ref r0), (1, .ref r1), (2, .int l2), (3, .int (nI 0))]) [1, 2, 3, 0] rfl ?_
  exact h
theorem b_X2_apply_13 {X : cX} {d : Nat} {μ : mM} {K : Option Value → mM → Prop} {r0 : Nat} {r1 : Nat} {l2 : Int32} {l3 : Int32} (hw5_r1 : WF5 μ r1) (hw2_r0 : WF2 μ r0) (hc_mergeNexts : (iv μ r1 0) ≤ l3 → Ct X (Rm (d + 2)) mX2_mergeNexts [.ref r0, .ref r1] μ (fun r μ2 => G X (Rm (d + 3)) mX2_apply 39 [(0, .ref r0), (1, .ref r1)] (r.toList ++ []) μ2 0 0 K)) (hc_joinGroup : ¬ (iv μ r1 0) ≤ l3 → Ct X (Rm (d + 2)) mX2_joinGroup [.ref r0, .ref r1, .int l2, .int l3] μ (fun r μ2 => G X (Rm (d + 3)) mX2_apply 28 [(0, .ref r0), (1, .ref r1), (2, .int l2), (3, .int l3)] (r.toList ++ []) μ2 0 0 K)) : G X (Rm (d + 3)) mX2_apply 13 [(0, .ref r0), (1, .ref r1), (2, .int l2), (3, .int l3)] [] μ 0 0 K := by
  refine G_iload_n d_X2_apply_13 rfl 3 rfl ?_
  refine G_aload_n d_X2_apply_14 rfl 1 rfl ?_
  refine G_getI 5 0 (w5_kd hw5_r1) cok5 (by decide) rfl fl_X2_28 d_X2_apply_15 ?_
  refine G_icmp_ge (tgt := 34) d_X2_apply_18 rfl (fun c0 => ?_) (fun c0 => ?_)
  ·
    refine G_aload_n d_X2_apply_34 rfl 0 rfl ?_
    refine G_aload_n d_X2_apply_35 rfl 1 rfl ?_
    refine G_sub (L' := [(0, .ref r0), (1, .ref r1)]) [0, 1] rfl ?_
    refine G_callV (M' := mX2_mergeNexts) (R' := (Rm (d + 2))) (S := []) [.ref r1] 2 (w2_kd hw2_r0) cok2 rfl ok_X2_mergeNexts ml_X2_36 pn_X2_mergeNexts (ru_Rm (by decide)) (Nat.le_of_ble_eq_true rfl) d_X2_apply_36 ?_
    exact (hc_mergeNexts c0)
  ·
    refine G_aload_n d_X2_apply_21 rfl 0 rfl ?_
    refine G_aload_n d_X2_apply_22 rfl 1 rfl ?_
    refine G_iload_n d_X2_apply_23 rfl 2 rfl ?_
    refine G_iload_n d_X2_apply_24 rfl 3 rfl ?_
    refine G_callV (M' := mX2_joinGroup) (R' := (Rm (d + 2))) (S := []) [.ref r1, .int l2, .int l3] 2 (w2_kd hw2_r0) cok2 rfl ok_X2_joinGroup ml_X2_32 pn_X2_joinGroup (ru_Rm (by decide)) (Nat.le_of_ble_eq_true rfl) d_X2_apply_25 ?_
    exact (hc_joinGroup c0)
theorem b_X2_apply_28 {X : cX} {d : Nat} {μ : mM} {K : Option Value → mM → Prop} {r0 : Nat} {r1 : Nat} {l2 : Int32} {i3 : Nat} (h : G X (Rm (d + 3)) mX2_apply 13 [(0, .ref r0), (1, .ref r1), (2, .int l2), (3, .int (nI (i3 + 1)))] [] μ 0 0 K) : G X (Rm (d + 3)) mX2_apply 28 [(0, .ref r0), (1, .ref r1), (2, .int l2), (3, .int (nI i3))] [] μ 0 0 K := by
  refine G_iinc (L' := [(3, .int (nI (i3 + 1))), (0, .ref r0), (1, .ref r1), (2, .int l2)]) d_X2_apply_28 3 rfl (inc1 i3) (by decide) rfl ?_
  refine G_goto (tgt := 13) d_X2_apply_31 rfl ?_
  refine G_sub (L' := [(0, .ref r0), (1, .ref r1), (2, .int l2), (3, .int (nI (i3 + 1)))]) [1, 2, 3, 0] rfl ?_
  exact h
theorem b_X2_apply_39 {X : cX} {d : Nat} {μ : mM} {K : Option Value → mM → Prop} {r0 : Nat} {r1 : Nat} (hw2_r0 : WF2 μ r0) (hw5_r1 : WF5 μ r1) (hc_copy : Ct X (Rm (d + 2)) mX5_copy [.ref r1, .ref (r0 + 1)] μ (fun r μ2 => G X (Rm (d + 3)) mX2_apply 47 [] (r.toList ++ []) μ2 0 0 K)) : G X (Rm (d + 3)) mX2_apply 39 [(0, .ref r0), (1, .ref r1)] [] μ 0 0 K := by
  refine G_aload_n d_X2_apply_39 rfl 1 rfl ?_
  refine G_aload_n d_X2_apply_40 rfl 0 rfl ?_
  refine G_getR (r := r0 + 1) 2 0 (w2_kd hw2_r0) (w2_f0 hw2_r0) cok2 (by decide) rfl fl_X2_12 d_X2_apply_41 ?_
  refine G_sub (L' := []) [] rfl ?_
  refine G_callV (M' := mX5_copy) (R' := (Rm (d + 2))) (S := []) [.ref (r0 + 1)] 5 (w5_kd hw5_r1) cok5 rfl ok_X5_copy ml_X2_40 pn_X5_copy (ru_Rm (by decide)) (Nat.le_of_ble_eq_true rfl) d_X2_apply_44 ?_
  exact hc_copy
theorem b_X2_apply_47 {X : cX} {d : Nat} {μ : mM} {K : Option Value → mM → Prop}  (hK : K none μ) : G X (Rm (d + 3)) mX2_apply 47 [] [] μ 0 0 K := by
  exact G_vret rfl rfl rfl d_X2_apply_47 hK
theorem d_X3_clear_0 : decode cX3_clear 0 = .ok (.aload_n 0, 1) := by decide +kernel
theorem d_X3_clear_1 : decode cX3_clear 1 = .ok (.iconst 0, 1) := by decide +kernel
theorem d_X3_clear_2 : decode cX3_clear 2 = .ok (.putfield 34, 3) := by decide +kernel
theorem d_X3_clear_5 : decode cX3_clear 5 = .ok (.aload_n 0, 1) := by decide +kernel
theorem d_X3_clear_6 : decode cX3_clear 6 = .ok (.iconst 0, 1) := by decide +kernel
theorem d_X3_clear_7 : decode cX3_clear 7 = .ok (.putfield 38, 3) := by decide +kernel
theorem d_X3_clear_10 : decode cX3_clear 10 = .ok (.aload_n 0, 1) := by decide +kernel
theorem d_X3_clear_11 : decode cX3_clear 11 = .ok (.iconst 0, 1) := by decide +kernel
theorem d_X3_clear_12 : decode cX3_clear 12 = .ok (.putfield 41, 3) := by decide +kernel
theorem d_X3_clear_15 : decode cX3_clear 15 = .ok (.aload_n 0, 1) := by decide +kernel
theorem d_X3_clear_16 : decode cX3_clear 16 = .ok (.iconst 0, 1) := by decide +kernel
theorem d_X3_clear_17 : decode cX3_clear 17 = .ok (.putfield 44, 3) := by decide +kernel
theorem d_X3_clear_20 : decode cX3_clear 20 = .ok (.return_, 1) := by decide +kernel
theorem b_X3_clear_0 {X : cX} {d : Nat} {μ : mM} {K : Option Value → mM → Prop} {r0 : Nat} (hw3_r0 : WF3 μ r0) (hK : K none (wi (wi (wi (wi μ r0 0 0) r0 3 0) r0 7 0) r0 8 0)) : G X (Rm d) mX3_clear 0 [(0, .ref r0)] [] μ 0 0 K := by
  refine G_aload_n d_X3_clear_0 rfl 0 rfl ?_
  refine G_iconst d_X3_clear_1 ic_0 ?_
  refine G_putI 3 0 (w3_kd hw3_r0) rfl rfl cok3 (by decide) rfl (Or.inl rfl) fl_X3_34 d_X3_clear_2 ?_
  refine G_aload_n d_X3_clear_5 rfl 0 rfl ?_
  refine G_iconst d_X3_clear_6 ic_0 ?_
  refine G_putI 3 3 (w3_kd hw3_r0) rfl rfl cok3 (by decide) rfl (Or.inl rfl) fl_X3_38 d_X3_clear_7 ?_
  refine G_aload_n d_X3_clear_10 rfl 0 rfl ?_
  refine G_iconst d_X3_clear_11 ic_0 ?_
  refine G_putI 3 7 (w3_kd hw3_r0) rfl rfl cok3 (by decide) rfl (Or.inl rfl) fl_X3_41 d_X3_clear_12 ?_
  refine G_aload_n d_X3_clear_15 rfl 0 rfl ?_
  refine G_iconst d_X3_clear_16 ic_0 ?_
  refine G_putI 3 8 (w3_kd hw3_r0) rfl rfl cok3 (by decide) rfl (Or.inl rfl) fl_X3_44 d_X3_clear_17 ?_
  exact G_vret rfl rfl rfl d_X3_clear_20 hK
theorem d_X3_placeOf_0 : decode cX3_placeOf 0 = .ok (.iconst 0, 1) := by decide +kernel
theorem d_X3_placeOf_1 : decode cX3_placeOf 1 = .ok (.istore_n 2, 1) := by decide +kernel
theorem d_X3_placeOf_2 : decode cX3_placeOf 2 = .ok (.iload_n 2, 1) := by decide +kernel
theorem d_X3_placeOf_3 : decode cX3_placeOf 3 = .ok (.aload_n 0, 1) := by decide +kernel
theorem d_X3_placeOf_4 : decode cX3_placeOf 4 = .ok (.getfield 34, 3) := by decide +kernel
theorem d_X3_placeOf_7 : decode cX3_placeOf 7 = .ok (.if_icmp .ge 21, 3) := by decide +kernel
theorem d_X3_placeOf_10 : decode cX3_placeOf 10 = .ok (.aload_n 0, 1) := by decide +kernel
theorem d_X3_placeOf_11 : decode cX3_placeOf 11 = .ok (.getfield 9, 3) := by decide +kernel
theorem d_X3_placeOf_14 : decode cX3_placeOf 14 = .ok (.iload_n 2, 1) := by decide +kernel
theorem d_X3_placeOf_15 : decode cX3_placeOf 15 = .ok (.iaload, 1) := by decide +kernel
theorem d_X3_placeOf_16 : decode cX3_placeOf 16 = .ok (.iload_n 1, 1) := by decide +kernel
theorem d_X3_placeOf_17 : decode cX3_placeOf 17 = .ok (.if_icmp .ne 5, 3) := by decide +kernel
theorem d_X3_placeOf_20 : decode cX3_placeOf 20 = .ok (.iload_n 2, 1) := by decide +kernel
theorem d_X3_placeOf_21 : decode cX3_placeOf 21 = .ok (.ireturn, 1) := by decide +kernel
theorem d_X3_placeOf_22 : decode cX3_placeOf 22 = .ok (.iinc 2 1, 3) := by decide +kernel
theorem d_X3_placeOf_25 : decode cX3_placeOf 25 = .ok (.goto (-23), 3) := by decide +kernel
theorem d_X3_placeOf_28 : decode cX3_placeOf 28 = .ok (.iconst (-1), 1) := by decide +kernel
theorem d_X3_placeOf_29 : decode cX3_placeOf 29 = .ok (.ireturn, 1) := by decide +kernel
theorem b_X3_placeOf_0 {X : cX} {d : Nat} {μ : mM} {K : Option Value → mM → Prop} {r0 : Nat} {l1 : Int32} (h : G X (Rm d) mX3_placeOf 2 [(0, .ref r0), (1, .int l1), (2, .int (nI 0))] [] μ 0 0 K) : G X (Rm d) mX3_placeOf 0 [(0, .ref r0), (1, .int l1)] [] μ 0 0 K := by
  refine G_iconst d_X3_placeOf_0 ic_0 ?_
  refine G_istore_n (L' := [(2, .int (nI 0)), (0, .ref r0), (1, .int l1)]) d_X3_placeOf_1 rfl (by decide) rfl ?_
  refine G_sub (L' := [(0, .ref r0), (1, .int l1), (2, .int (nI 0))]) [1, 2, 0] rfl ?_
  exact h
theorem b_X3_placeOf_2 {X : cX} {d : Nat} {μ : mM} {K : Option Value → mM → Prop} {r0 : Nat} {l1 : Int32} {i2 : Nat} (hw3_r0 : WF3 μ r0) (hK : (iv μ r0 0) ≤ (nI i2) → K (some (.int (-1))) μ) (hb : ¬ (iv μ r0 0) ≤ (nI i2) → i2 < 3) (h : ¬ (iv μ r0 0) ≤ (nI i2) → ¬ (iv μ (r0 + 1) i2) = l1 → G X (Rm d) mX3_placeOf 2 [(0, .ref r0), (1, .int l1), (2, .int (nI (i2 + 1)))] [] μ 0 0 K) (hK_2 : ¬ (iv μ r0 0) ≤ (nI i2) → (iv μ (r0 + 1) i2) = l1 → K (some (.int (nI i2))) μ) : G X (Rm d) mX3_placeOf 2 [(0, .ref r0), (1, .int l1), (2, .int (nI i2))] [] μ 0 0 K := by
  refine G_iload_n d_X3_placeOf_2 rfl 2 rfl ?_
  refine G_aload_n d_X3_placeOf_3 rfl 0 rfl ?_
  refine G_getI 3 0 (w3_kd hw3_r0) cok3 (by decide) rfl fl_X3_34 d_X3_placeOf_4 ?_
  refine G_icmp_ge (tgt := 28) d_X3_placeOf_7 rfl (fun c0 => ?_) (fun c0 => ?_)
  ·
    refine G_iconst d_X3_placeOf_28 ic_m1 ?_
    exact G_iret rfl rfl rfl d_X3_placeOf_29 (hK c0)
  ·
    refine G_aload_n d_X3_placeOf_10 rfl 0 rfl ?_
    refine G_getR (r := r0 + 1) 3 1 (w3_kd hw3_r0) (w3_f1 hw3_r0) cok3 (by decide) rfl fl_X3_9 d_X3_placeOf_11 ?_
    refine G_iload_n d_X3_placeOf_14 rfl 2 rfl ?_
    refine G_iald i2 (w3_k1 hw3_r0) rfl (hb c0) d_X3_placeOf_15 ?_
    refine G_iload_n d_X3_placeOf_16 rfl 1 rfl ?_
    refine G_icmp_ne (tgt := 22) d_X3_placeOf_17 rfl (fun c1 => ?_) (fun c1 => ?_)
    ·
      refine G_iinc (L' := [(2, .int (nI (i2 + 1))), (0, .ref r0), (1, .int l1)]) d_X3_placeOf_22 2 rfl (inc1 i2) (by decide) rfl ?_
      refine G_goto (tgt := 2) d_X3_placeOf_25 rfl ?_
      refine G_sub (L' := [(0, .ref r0), (1, .int l1), (2, .int (nI (i2 + 1)))]) [1, 2, 0] rfl ?_
      exact (h c0 c1)
    ·
      refine G_iload_n d_X3_placeOf_20 rfl 2 rfl ?_
      exact G_iret rfl rfl rfl d_X3_placeOf_21 (hK_2 c0 c1)
theorem d_X3_putLetter_0 : decode cX3_putLetter 0 = .ok (.aload_n 0, 1) := by decide +kernel
theorem d_X3_putLetter_1 : decode cX3_putLetter 1 = .ok (.getfield 34, 3) := by decide +kernel
theorem d_X3_putLetter_4 : decode cX3_putLetter 4 = .ok (.iconst 3, 1) := by decide +kernel
theorem d_X3_putLetter_5 : decode cX3_putLetter 5 = .ok (.if_icmp .ge 33, 3) := by decide +kernel
theorem d_X3_putLetter_8 : decode cX3_putLetter 8 = .ok (.aload_n 0, 1) := by decide +kernel
theorem d_X3_putLetter_9 : decode cX3_putLetter 9 = .ok (.getfield 9, 3) := by decide +kernel
theorem d_X3_putLetter_12 : decode cX3_putLetter 12 = .ok (.aload_n 0, 1) := by decide +kernel
theorem d_X3_putLetter_13 : decode cX3_putLetter 13 = .ok (.getfield 34, 3) := by decide +kernel
theorem d_X3_putLetter_16 : decode cX3_putLetter 16 = .ok (.iload_n 1, 1) := by decide +kernel
theorem d_X3_putLetter_17 : decode cX3_putLetter 17 = .ok (.iastore, 1) := by decide +kernel
theorem d_X3_putLetter_18 : decode cX3_putLetter 18 = .ok (.aload_n 0, 1) := by decide +kernel
theorem d_X3_putLetter_19 : decode cX3_putLetter 19 = .ok (.getfield 15, 3) := by decide +kernel
theorem d_X3_putLetter_22 : decode cX3_putLetter 22 = .ok (.aload_n 0, 1) := by decide +kernel
theorem d_X3_putLetter_23 : decode cX3_putLetter 23 = .ok (.getfield 34, 3) := by decide +kernel
theorem d_X3_putLetter_26 : decode cX3_putLetter 26 = .ok (.iload_n 2, 1) := by decide +kernel
theorem d_X3_putLetter_27 : decode cX3_putLetter 27 = .ok (.bastore, 1) := by decide +kernel
theorem d_X3_putLetter_28 : decode cX3_putLetter 28 = .ok (.aload_n 0, 1) := by decide +kernel
theorem d_X3_putLetter_29 : decode cX3_putLetter 29 = .ok (.dup, 1) := by decide +kernel
theorem d_X3_putLetter_30 : decode cX3_putLetter 30 = .ok (.getfield 34, 3) := by decide +kernel
theorem d_X3_putLetter_33 : decode cX3_putLetter 33 = .ok (.iconst 1, 1) := by decide +kernel
theorem d_X3_putLetter_34 : decode cX3_putLetter 34 = .ok (.iadd, 1) := by decide +kernel
theorem d_X3_putLetter_35 : decode cX3_putLetter 35 = .ok (.putfield 34, 3) := by decide +kernel
theorem d_X3_putLetter_38 : decode cX3_putLetter 38 = .ok (.return_, 1) := by decide +kernel
theorem b_X3_putLetter_0 {X : cX} {d : Nat} {μ : mM} {K : Option Value → mM → Prop} {r0 : Nat} {l1 : Int32} {l2 : Int32} {j0 : Nat} {j1 : Nat} (hw3_r0 : WF3 μ r0) (hK : (3 : Int32) ≤ (iv μ r0 0) → K none μ) (hi_j0 : ¬ (3 : Int32) ≤ (iv μ r0 0) → iv μ r0 0 = nI j0) (hb : ¬ (3 : Int32) ≤ (iv μ r0 0) → j0 < 3) (hi_j1 : ¬ (3 : Int32) ≤ (iv μ r0 0) → iv (wi μ (r0 + 1) j0 l1) r0 0 = nI j1) (hb_2 : ¬ (3 : Int32) ≤ (iv μ r0 0) → j1 < 3) (hz : ¬ (3 : Int32) ≤ (iv μ r0 0) → l2 = 0 ∨ l2 = 1) (hK_2 : ¬ (3 : Int32) ≤ (iv μ r0 0) → K none (wi (wi (wi μ (r0 + 1) j0 l1) (r0 + 2) j1 l2) r0 0 ((iv (wi (wi μ (r0 + 1) j0 l1) (r0 + 2) j1 l2) r0 0) + 1))) : G X (Rm d) mX3_putLetter 0 [(0, .ref r0), (1, .int l1), (2, .int l2)] [] μ 0 0 K := by
  refine G_aload_n d_X3_putLetter_0 rfl 0 rfl ?_
  refine G_getI 3 0 (w3_kd hw3_r0) cok3 (by decide) rfl fl_X3_34 d_X3_putLetter_1 ?_
  refine G_iconst d_X3_putLetter_4 ic_3 ?_
  refine G_icmp_ge (tgt := 38) d_X3_putLetter_5 rfl (fun c0 => ?_) (fun c0 => ?_)
  ·
    exact G_vret rfl rfl rfl d_X3_putLetter_38 (hK c0)
  ·
    refine G_aload_n d_X3_putLetter_8 rfl 0 rfl ?_
    refine G_getR (r := r0 + 1) 3 1 (w3_kd hw3_r0) (w3_f1 hw3_r0) cok3 (by decide) rfl fl_X3_9 d_X3_putLetter_9 ?_
    refine G_aload_n d_X3_putLetter_12 rfl 0 rfl ?_
    refine G_getI 3 0 (w3_kd hw3_r0) cok3 (by decide) rfl fl_X3_34 d_X3_putLetter_13 ?_
    refine G_iload_n d_X3_putLetter_16 rfl 1 rfl ?_
    refine G_iast j0 (w3_k1 hw3_r0) (hi_j0 c0) (hb c0) d_X3_putLetter_17 ?_
    refine G_aload_n d_X3_putLetter_18 rfl 0 rfl ?_
    refine G_getR (r := r0 + 2) 3 2 (w3_kd hw3_r0) (w3_f2 hw3_r0) cok3 (by decide) rfl fl_X3_15 d_X3_putLetter_19 ?_
    refine G_aload_n d_X3_putLetter_22 rfl 0 rfl ?_
    refine G_getI 3 0 (w3_kd hw3_r0) cok3 (by decide) rfl fl_X3_34 d_X3_putLetter_23 ?_
    refine G_iload_n d_X3_putLetter_26 rfl 2 rfl ?_
    refine G_zast (v := l2) j1 (w3_k2 hw3_r0) (hi_j1 c0) (hb_2 c0) (vpn_b (hz c0)) d_X3_putLetter_27 ?_
    refine G_aload_n d_X3_putLetter_28 rfl 0 rfl ?_
    refine G_dup d_X3_putLetter_29 rfl ?_
    refine G_getI 3 0 (w3_kd hw3_r0) cok3 (by decide) rfl fl_X3_34 d_X3_putLetter_30 ?_
    refine G_iconst d_X3_putLetter_33 ic_1 ?_
    refine G_iadd d_X3_putLetter_34 ?_
    refine G_putI 3 0 (w3_kd hw3_r0) rfl rfl cok3 (by decide) rfl (Or.inl rfl) fl_X3_34 d_X3_putLetter_35 ?_
    exact G_vret rfl rfl rfl d_X3_putLetter_38 (hK_2 c0)
theorem d_X3_allBits_0 : decode cX3_allBits 0 = .ok (.iconst 0, 1) := by decide +kernel
theorem d_X3_allBits_1 : decode cX3_allBits 1 = .ok (.istore_n 1, 1) := by decide +kernel
theorem d_X3_allBits_2 : decode cX3_allBits 2 = .ok (.iconst 0, 1) := by decide +kernel
theorem d_X3_allBits_3 : decode cX3_allBits 3 = .ok (.istore_n 2, 1) := by decide +kernel
theorem d_X3_allBits_4 : decode cX3_allBits 4 = .ok (.iload_n 2, 1) := by decide +kernel
theorem d_X3_allBits_5 : decode cX3_allBits 5 = .ok (.aload_n 0, 1) := by decide +kernel
theorem d_X3_allBits_6 : decode cX3_allBits 6 = .ok (.getfield 34, 3) := by decide +kernel
theorem d_X3_allBits_9 : decode cX3_allBits 9 = .ok (.if_icmp .ge 24, 3) := by decide +kernel
theorem d_X3_allBits_12 : decode cX3_allBits 12 = .ok (.aload_n 0, 1) := by decide +kernel
theorem d_X3_allBits_13 : decode cX3_allBits 13 = .ok (.getfield 15, 3) := by decide +kernel
theorem d_X3_allBits_16 : decode cX3_allBits 16 = .ok (.iload_n 2, 1) := by decide +kernel
theorem d_X3_allBits_17 : decode cX3_allBits 17 = .ok (.baload, 1) := by decide +kernel
theorem d_X3_allBits_18 : decode cX3_allBits 18 = .ok (.ifCond .eq 9, 3) := by decide +kernel
theorem d_X3_allBits_21 : decode cX3_allBits 21 = .ok (.iload_n 1, 1) := by decide +kernel
theorem d_X3_allBits_22 : decode cX3_allBits 22 = .ok (.iconst 1, 1) := by decide +kernel
theorem d_X3_allBits_23 : decode cX3_allBits 23 = .ok (.iload_n 2, 1) := by decide +kernel
theorem d_X3_allBits_24 : decode cX3_allBits 24 = .ok (.ishl, 1) := by decide +kernel
theorem d_X3_allBits_25 : decode cX3_allBits 25 = .ok (.ior, 1) := by decide +kernel
theorem d_X3_allBits_26 : decode cX3_allBits 26 = .ok (.istore_n 1, 1) := by decide +kernel
theorem d_X3_allBits_27 : decode cX3_allBits 27 = .ok (.iinc 2 1, 3) := by decide +kernel
theorem d_X3_allBits_30 : decode cX3_allBits 30 = .ok (.goto (-26), 3) := by decide +kernel
theorem d_X3_allBits_33 : decode cX3_allBits 33 = .ok (.iload_n 1, 1) := by decide +kernel
theorem d_X3_allBits_34 : decode cX3_allBits 34 = .ok (.ireturn, 1) := by decide +kernel
theorem b_X3_allBits_0 {X : cX} {d : Nat} {μ : mM} {K : Option Value → mM → Prop} {r0 : Nat} (h : G X (Rm d) mX3_allBits 4 [(0, .ref r0), (1, .int 0), (2, .int (nI 0))] [] μ 0 0 K) : G X (Rm d) mX3_allBits 0 [(0, .ref r0)] [] μ 0 0 K := by
  refine G_iconst d_X3_allBits_0 ic_0 ?_
  refine G_istore_n (L' := [(1, .int 0), (0, .ref r0)]) d_X3_allBits_1 rfl (by decide) rfl ?_
  refine G_iconst d_X3_allBits_2 ic_0 ?_
  refine G_istore_n (L' := [(2, .int (nI 0)), (1, .int 0), (0, .ref r0)]) d_X3_allBits_3 rfl (by decide) rfl ?_
  refine G_sub (L' := [(0, .ref r0), (1, .int 0), (2, .int (nI 0))]) [2, 1, 0] rfl ?_
  exact h
theorem b_X3_allBits_4 {X : cX} {d : Nat} {μ : mM} {K : Option Value → mM → Prop} {r0 : Nat} {l1 : Int32} {i2 : Nat} (hw3_r0 : WF3 μ r0) (hK : (iv μ r0 0) ≤ (nI i2) → K (some (.int l1)) μ) (hb : ¬ (iv μ r0 0) ≤ (nI i2) → i2 < 3) (h : ¬ (iv μ r0 0) ≤ (nI i2) → (iv μ (r0 + 2) i2) = 0 → G X (Rm d) mX3_allBits 27 [(0, .ref r0), (1, .int l1), (2, .int (nI i2))] [] μ 0 0 K) (h_2 : ¬ (iv μ r0 0) ≤ (nI i2) → ¬ (iv μ (r0 + 2) i2) = 0 → G X (Rm d) mX3_allBits 27 [(0, .ref r0), (1, .int (l1 ||| ((1 : Int32) <<< ((nI i2) &&& 31)))), (2, .int (nI i2))] [] μ 0 0 K) : G X (Rm d) mX3_allBits 4 [(0, .ref r0), (1, .int l1), (2, .int (nI i2))] [] μ 0 0 K := by
  refine G_iload_n d_X3_allBits_4 rfl 2 rfl ?_
  refine G_aload_n d_X3_allBits_5 rfl 0 rfl ?_
  refine G_getI 3 0 (w3_kd hw3_r0) cok3 (by decide) rfl fl_X3_34 d_X3_allBits_6 ?_
  refine G_icmp_ge (tgt := 33) d_X3_allBits_9 rfl (fun c0 => ?_) (fun c0 => ?_)
  ·
    refine G_iload_n d_X3_allBits_33 rfl 1 rfl ?_
    exact G_iret rfl rfl rfl d_X3_allBits_34 (hK c0)
  ·
    refine G_aload_n d_X3_allBits_12 rfl 0 rfl ?_
    refine G_getR (r := r0 + 2) 3 2 (w3_kd hw3_r0) (w3_f2 hw3_r0) cok3 (by decide) rfl fl_X3_15 d_X3_allBits_13 ?_
    refine G_iload_n d_X3_allBits_16 rfl 2 rfl ?_
    refine G_zald i2 (w3_k2 hw3_r0) rfl (hb c0) d_X3_allBits_17 ?_
    refine G_if_eq (tgt := 27) d_X3_allBits_18 rfl (fun c1 => ?_) (fun c1 => ?_)
    ·
      exact (h c0 c1)
    ·
      refine G_iload_n d_X3_allBits_21 rfl 1 rfl ?_
      refine G_iconst d_X3_allBits_22 ic_1 ?_
      refine G_iload_n d_X3_allBits_23 rfl 2 rfl ?_
      refine G_ishl d_X3_allBits_24 ?_
      refine G_ior d_X3_allBits_25 ?_
      refine G_istore_n (L' := [(1, .int (l1 ||| ((1 : Int32) <<< ((nI i2) &&& 31)))), (0, .ref r0), (2, .int (nI i2))]) d_X3_allBits_26 rfl (by decide) rfl ?_
      refine G_sub (L' := [(0, .ref r0), (1, .int (l1 ||| ((1 : Int32) <<< ((nI i2) &&& 31)))), (2, .int (nI i2))]) [1, 0, 2] rfl ?_
      exact (h_2 c0 c1)
theorem b_X3_allBits_27 {X : cX} {d : Nat} {μ : mM} {K : Option Value → mM → Prop} {r0 : Nat} {l1 : Int32} {i2 : Nat} (h : G X (Rm d) mX3_allBits 4 [(0, .ref r0), (1, .int l1), (2, .int (nI (i2 + 1)))] [] μ 0 0 K) : G X (Rm d) mX3_allBits 27 [(0, .ref r0), (1, .int l1), (2, .int (nI i2))] [] μ 0 0 K := by
  refine G_iinc (L' := [(2, .int (nI (i2 + 1))), (0, .ref r0), (1, .int l1)]) d_X3_allBits_27 2 rfl (inc1 i2) (by decide) rfl ?_
  refine G_goto (tgt := 4) d_X3_allBits_30 rfl ?_
  refine G_sub (L' := [(0, .ref r0), (1, .int l1), (2, .int (nI (i2 + 1)))]) [1, 2, 0] rfl ?_
  exact h
theorem d_X3_isFull_0 : decode cX3_isFull 0 = .ok (.aload_n 0, 1) := by decide +kernel
theorem d_X3_isFull_1 : decode cX3_isFull 1 = .ok (.getfield 38, 3) := by decide +kernel
theorem d_X3_isFull_4 : decode cX3_isFull 4 = .ok (.bipush 12, 2) := by decide +kernel
theorem d_X3_isFull_6 : decode cX3_isFull 6 = .ok (.if_icmp .lt 7, 3) := by decide +kernel
theorem d_X3_isFull_9 : decode cX3_isFull 9 = .ok (.iconst 1, 1) := by decide +kernel
theorem d_X3_isFull_10 : decode cX3_isFull 10 = .ok (.goto 4, 3) := by decide +kernel
theorem d_X3_isFull_13 : decode cX3_isFull 13 = .ok (.iconst 0, 1) := by decide +kernel
theorem d_X3_isFull_14 : decode cX3_isFull 14 = .ok (.ireturn, 1) := by decide +kernel
theorem b_X3_isFull_0 {X : cX} {d : Nat} {μ : mM} {K : Option Value → mM → Prop} {r0 : Nat} (hw3_r0 : WF3 μ r0) (hK : (iv μ r0 3) < (12 : Int32) → K (some (.int 0)) μ) (hK_2 : ¬ (iv μ r0 3) < (12 : Int32) → K (some (.int 1)) μ) : G X (Rm d) mX3_isFull 0 [(0, .ref r0)] [] μ 0 0 K := by
  refine G_aload_n d_X3_isFull_0 rfl 0 rfl ?_
  refine G_getI 3 3 (w3_kd hw3_r0) cok3 (by decide) rfl fl_X3_38 d_X3_isFull_1 ?_
  refine G_bipush d_X3_isFull_4 bp_12 ?_
  refine G_icmp_lt (tgt := 13) d_X3_isFull_6 rfl (fun c0 => ?_) (fun c0 => ?_)
  ·
    refine G_iconst d_X3_isFull_13 ic_0 ?_
    exact G_zret rfl rfl rfl rfl d_X3_isFull_14 (hK c0)
  ·
    refine G_iconst d_X3_isFull_9 ic_1 ?_
    refine G_goto (tgt := 14) d_X3_isFull_10 rfl ?_
    exact G_zret rfl rfl rfl rfl d_X3_isFull_14 (hK_2 c0)
def e_X3_isFull (μ : mM) (r0 : Nat) : Int32 := (if (iv μ r0 3) < (12 : Int32) then 0 else 1)
theorem s_X3_isFull {X : cX} {d : Nat} {μ : mM} {K : Option Value → mM → Prop} {r0 : Nat} (hw3_r0 : WF3 μ r0) (hK : K (some (.int (e_X3_isFull μ r0))) μ) : Ct X (Rm d) mX3_isFull [.ref r0] μ K := Ct_of rfl (Nat.le_of_ble_eq_true rfl) (G_sub [0] rfl (b_X3_isFull_0 hw3_r0 (fun c0 => by unfold e_X3_isFull at hK; rw [if_pos c0] at hK; exact hK) (fun c0 => by unfold e_X3_isFull at hK; rw [if_neg c0] at hK; exact hK)))
theorem d_X3_taken_0 : decode cX3_taken 0 = .ok (.iload_n 0, 1) := by decide +kernel
theorem d_X3_taken_1 : decode cX3_taken 1 = .ok (.bipush 6, 2) := by decide +kernel
theorem d_X3_taken_3 : decode cX3_taken 3 = .ok (.if_icmp .eq 9, 3) := by decide +kernel
theorem d_X3_taken_6 : decode cX3_taken 6 = .ok (.iload_n 0, 1) := by decide +kernel
theorem d_X3_taken_7 : decode cX3_taken 7 = .ok (.bipush 7, 2) := by decide +kernel
theorem d_X3_taken_9 : decode cX3_taken 9 = .ok (.if_icmp .ne 5, 3) := by decide +kernel
theorem d_X3_taken_12 : decode cX3_taken 12 = .ok (.iconst 2, 1) := by decide +kernel
theorem d_X3_taken_13 : decode cX3_taken 13 = .ok (.ireturn, 1) := by decide +kernel
theorem d_X3_taken_14 : decode cX3_taken 14 = .ok (.iload_n 0, 1) := by decide +kernel
theorem d_X3_taken_15 : decode cX3_taken 15 = .ok (.iconst 5, 1) := by decide +kernel
theorem d_X3_taken_16 : decode cX3_taken 16 = .ok (.if_icmp .ne 7, 3) := by decide +kernel
theorem d_X3_taken_19 : decode cX3_taken 19 = .ok (.iconst 1, 1) := by decide +kernel
theorem d_X3_taken_20 : decode cX3_taken 20 = .ok (.goto 4, 3) := by decide +kernel
theorem d_X3_taken_23 : decode cX3_taken 23 = .ok (.iconst 0, 1) := by decide +kernel
theorem d_X3_taken_24 : decode cX3_taken 24 = .ok (.ireturn, 1) := by decide +kernel
theorem b_X3_taken_0 {X : cX} {d : Nat} {μ : mM} {K : Option Value → mM → Prop} {l0 : Int32} (hK : l0 = (6 : Int32) → K (some (.int 2)) μ) (hK_2 : ¬ l0 = (6 : Int32) → ¬ l0 = (7 : Int32) → ¬ l0 = (5 : Int32) → K (some (.int 0)) μ) (hK_3 : ¬ l0 = (6 : Int32) → ¬ l0 = (7 : Int32) → l0 = (5 : Int32) → K (some (.int 1)) μ) (hK_4 : ¬ l0 = (6 : Int32) → l0 = (7 : Int32) → K (some (.int 2)) μ) : G X (Rm d) mX3_taken 0 [(0, .int l0)] [] μ 0 0 K := by
  refine G_iload_n d_X3_taken_0 rfl 0 rfl ?_
  refine G_bipush d_X3_taken_1 bp_6 ?_
  refine G_icmp_eq (tgt := 12) d_X3_taken_3 rfl (fun c0 => ?_) (fun c0 => ?_)
  ·
    refine G_iconst d_X3_taken_12 ic_2 ?_
    exact G_iret rfl rfl rfl d_X3_taken_13 (hK c0)
  ·
    refine G_iload_n d_X3_taken_6 rfl 0 rfl ?_
    refine G_bipush d_X3_taken_7 bp_7 ?_
    refine G_icmp_ne (tgt := 14) d_X3_taken_9 rfl (fun c1 => ?_) (fun c1 => ?_)
    ·
      refine G_iload_n d_X3_taken_14 rfl 0 rfl ?_
      refine G_iconst d_X3_taken_15 ic_5 ?_
      refine G_icmp_ne (tgt := 23) d_X3_taken_16 rfl (fun c2 => ?_) (fun c2 => ?_)
      ·
        refine G_iconst d_X3_taken_23 ic_0 ?_
        exact G_iret rfl rfl rfl d_X3_taken_24 (hK_2 c0 c1 c2)
      ·
        refine G_iconst d_X3_taken_19 ic_1 ?_
        refine G_goto (tgt := 24) d_X3_taken_20 rfl ?_
        exact G_iret rfl rfl rfl d_X3_taken_24 (hK_3 c0 c1 c2)
    ·
      refine G_iconst d_X3_taken_12 ic_2 ?_
      exact G_iret rfl rfl rfl d_X3_taken_13 (hK_4 c0 c1)
def e_X3_taken (μ : mM) (l0 : Int32) : Int32 := (if l0 = (6 : Int32) then 2 else (if l0 = (7 : Int32) then 2 else (if l0 = (5 : Int32) then 1 else 0)))
theorem s_X3_taken {X : cX} {d : Nat} {μ : mM} {K : Option Value → mM → Prop} {l0 : Int32}  (hK : K (some (.int (e_X3_taken μ l0))) μ) : Ct X (Rm d) mX3_taken [.int l0] μ K := Ct_of rfl (Nat.le_of_ble_eq_true rfl) (G_sub [0] rfl (b_X3_taken_0 (fun c0 => by unfold e_X3_taken at hK; rw [if_pos c0] at hK; exact hK) (fun c0 c1 c2 => by unfold e_X3_taken at hK; rw [if_neg c0, if_neg c1, if_neg c2] at hK; exact hK) (fun c0 c1 c2 => by unfold e_X3_taken at hK; rw [if_neg c0, if_neg c1, if_pos c2] at hK; exact hK) (fun c0 c1 => by unfold e_X3_taken at hK; rw [if_neg c0, if_pos c1] at hK; exact hK)))
theorem d_X3_hasEnoughFor_0 : decode cX3_hasEnoughFor 0 = .ok (.aload_n 0, 1) := by decide +kernel
theorem d_X3_hasEnoughFor_1 : decode cX3_hasEnoughFor 1 = .ok (.getfield 41, 3) := by decide +kernel
theorem d_X3_hasEnoughFor_4 : decode cX3_hasEnoughFor 4 = .ok (.iload_n 1, 1) := by decide +kernel
theorem d_X3_hasEnoughFor_5 : decode cX3_hasEnoughFor 5 = .ok (.invokestatic 47, 3) := by decide +kernel
theorem d_X3_hasEnoughFor_8 : decode cX3_hasEnoughFor 8 = .ok (.if_icmp .lt 7, 3) := by decide +kernel
theorem d_X3_hasEnoughFor_11 : decode cX3_hasEnoughFor 11 = .ok (.iconst 1, 1) := by decide +kernel
theorem d_X3_hasEnoughFor_12 : decode cX3_hasEnoughFor 12 = .ok (.goto 4, 3) := by decide +kernel
theorem d_X3_hasEnoughFor_15 : decode cX3_hasEnoughFor 15 = .ok (.iconst 0, 1) := by decide +kernel
theorem d_X3_hasEnoughFor_16 : decode cX3_hasEnoughFor 16 = .ok (.ireturn, 1) := by decide +kernel
theorem b_X3_hasEnoughFor_0 {X : cX} {d : Nat} {μ : mM} {K : Option Value → mM → Prop} {r0 : Nat} {l1 : Int32} (hw3_r0 : WF3 μ r0) (hK : (iv μ r0 7) < (e_X3_taken μ l1) → K (some (.int 0)) μ) (hK_2 : ¬ (iv μ r0 7) < (e_X3_taken μ l1) → K (some (.int 1)) μ) : G X (Rm (d + 1)) mX3_hasEnoughFor 0 [(0, .ref r0), (1, .int l1)] [] μ 0 0 K := by
  refine G_aload_n d_X3_hasEnoughFor_0 rfl 0 rfl ?_
  refine G_getI 3 7 (w3_kd hw3_r0) cok3 (by decide) rfl fl_X3_41 d_X3_hasEnoughFor_1 ?_
  refine G_iload_n d_X3_hasEnoughFor_4 rfl 1 rfl ?_
  refine G_callS (M' := mX3_taken) (R' := (Rm d)) (S := [.int (iv μ r0 7)]) [.int l1] ok_X3_taken ml_X3_47 pn_X3_taken (ru_Rm (by decide)) (Nat.le_of_ble_eq_true rfl) d_X3_hasEnoughFor_5 (s_X3_taken (μ := μ)   ?_)
  show G X (Rm (d + 1)) mX3_hasEnoughFor 8 [(0, .ref r0), (1, .int l1)] [.int (e_X3_taken μ l1), .int (iv μ r0 7)] μ 0 0 K
  refine G_icmp_lt (tgt := 15) d_X3_hasEnoughFor_8 rfl (fun c0 => ?_) (fun c0 => ?_)
  ·
    refine G_iconst d_X3_hasEnoughFor_15 ic_0 ?_
    exact G_zret rfl rfl rfl rfl d_X3_hasEnoughFor_16 (hK c0)
  ·
    refine G_iconst d_X3_hasEnoughFor_11 ic_1 ?_
    refine G_goto (tgt := 16) d_X3_hasEnoughFor_12 rfl ?_
    exact G_zret rfl rfl rfl rfl d_X3_hasEnoughFor_16 (hK_2 c0)
def e_X3_hasEnoughFor (μ : mM) (r0 : Nat) (l1 : Int32) : Int32 := (if (iv μ r0 7) < (e_X3_taken μ l1) then 0 else 1)
theorem s_X3_hasEnoughFor {X : cX} {d : Nat} {μ : mM} {K : Option Value → mM → Prop} {r0 : Nat} {l1 : Int32} (hw3_r0 : WF3 μ r0) (hK : K (some (.int (e_X3_hasEnoughFor μ r0 l1))) μ) : Ct X (Rm (d + 1)) mX3_hasEnoughFor [.ref r0, .int l1] μ K := Ct_of rfl (Nat.le_of_ble_eq_true rfl) (G_sub [0, 1] rfl (b_X3_hasEnoughFor_0 hw3_r0 (fun c0 => by unfold e_X3_hasEnoughFor at hK; rw [if_pos c0] at hK; exact hK) (fun c0 => by unfold e_X3_hasEnoughFor at hK; rw [if_neg c0] at hK; exact hK)))
theorem d_X3_putItem_0 : decode cX3_putItem 0 = .ok (.iload_n 1, 1) := by decide +kernel
theorem d_X3_putItem_1 : decode cX3_putItem 1 = .ok (.invokestatic 47, 3) := by decide +kernel
theorem d_X3_putItem_4 : decode cX3_putItem 4 = .ok (.istore 4, 2) := by decide +kernel
theorem d_X3_putItem_6 : decode cX3_putItem 6 = .ok (.aload_n 0, 1) := by decide +kernel
theorem d_X3_putItem_7 : decode cX3_putItem 7 = .ok (.invokevirtual 51, 3) := by decide +kernel
theorem d_X3_putItem_10 : decode cX3_putItem 10 = .ok (.ifCond .ne 12, 3) := by decide +kernel
theorem d_X3_putItem_13 : decode cX3_putItem 13 = .ok (.aload_n 0, 1) := by decide +kernel
theorem d_X3_putItem_14 : decode cX3_putItem 14 = .ok (.getfield 41, 3) := by decide +kernel
theorem d_X3_putItem_17 : decode cX3_putItem 17 = .ok (.iload 4, 2) := by decide +kernel
theorem d_X3_putItem_19 : decode cX3_putItem 19 = .ok (.if_icmp .ge 4, 3) := by decide +kernel
theorem d_X3_putItem_22 : decode cX3_putItem 22 = .ok (.return_, 1) := by decide +kernel
theorem d_X3_putItem_23 : decode cX3_putItem 23 = .ok (.aload_n 0, 1) := by decide +kernel
theorem d_X3_putItem_24 : decode cX3_putItem 24 = .ok (.getfield 19, 3) := by decide +kernel
theorem d_X3_putItem_27 : decode cX3_putItem 27 = .ok (.aload_n 0, 1) := by decide +kernel
theorem d_X3_putItem_28 : decode cX3_putItem 28 = .ok (.getfield 38, 3) := by decide +kernel
theorem d_X3_putItem_31 : decode cX3_putItem 31 = .ok (.iload_n 1, 1) := by decide +kernel
theorem d_X3_putItem_32 : decode cX3_putItem 32 = .ok (.iastore, 1) := by decide +kernel
theorem d_X3_putItem_33 : decode cX3_putItem 33 = .ok (.aload_n 0, 1) := by decide +kernel
theorem d_X3_putItem_34 : decode cX3_putItem 34 = .ok (.getfield 22, 3) := by decide +kernel
theorem d_X3_putItem_37 : decode cX3_putItem 37 = .ok (.aload_n 0, 1) := by decide +kernel
theorem d_X3_putItem_38 : decode cX3_putItem 38 = .ok (.getfield 38, 3) := by decide +kernel
theorem d_X3_putItem_41 : decode cX3_putItem 41 = .ok (.iload_n 2, 1) := by decide +kernel
theorem d_X3_putItem_42 : decode cX3_putItem 42 = .ok (.iastore, 1) := by decide +kernel
theorem d_X3_putItem_43 : decode cX3_putItem 43 = .ok (.aload_n 0, 1) := by decide +kernel
theorem d_X3_putItem_44 : decode cX3_putItem 44 = .ok (.getfield 25, 3) := by decide +kernel
theorem d_X3_putItem_47 : decode cX3_putItem 47 = .ok (.aload_n 0, 1) := by decide +kernel
theorem d_X3_putItem_48 : decode cX3_putItem 48 = .ok (.getfield 38, 3) := by decide +kernel
theorem d_X3_putItem_51 : decode cX3_putItem 51 = .ok (.iload_n 3, 1) := by decide +kernel
theorem d_X3_putItem_52 : decode cX3_putItem 52 = .ok (.iastore, 1) := by decide +kernel
theorem d_X3_putItem_53 : decode cX3_putItem 53 = .ok (.aload_n 0, 1) := by decide +kernel
theorem d_X3_putItem_54 : decode cX3_putItem 54 = .ok (.dup, 1) := by decide +kernel
theorem d_X3_putItem_55 : decode cX3_putItem 55 = .ok (.getfield 38, 3) := by decide +kernel
theorem d_X3_putItem_58 : decode cX3_putItem 58 = .ok (.iconst 1, 1) := by decide +kernel
theorem d_X3_putItem_59 : decode cX3_putItem 59 = .ok (.iadd, 1) := by decide +kernel
theorem d_X3_putItem_60 : decode cX3_putItem 60 = .ok (.putfield 38, 3) := by decide +kernel
theorem d_X3_putItem_63 : decode cX3_putItem 63 = .ok (.aload_n 0, 1) := by decide +kernel
theorem d_X3_putItem_64 : decode cX3_putItem 64 = .ok (.dup, 1) := by decide +kernel
theorem d_X3_putItem_65 : decode cX3_putItem 65 = .ok (.getfield 41, 3) := by decide +kernel
theorem d_X3_putItem_68 : decode cX3_putItem 68 = .ok (.iconst 1, 1) := by decide +kernel
theorem d_X3_putItem_69 : decode cX3_putItem 69 = .ok (.iload 4, 2) := by decide +kernel
theorem d_X3_putItem_71 : decode cX3_putItem 71 = .ok (.isub, 1) := by decide +kernel
theorem d_X3_putItem_72 : decode cX3_putItem 72 = .ok (.iadd, 1) := by decide +kernel
theorem d_X3_putItem_73 : decode cX3_putItem 73 = .ok (.putfield 41, 3) := by decide +kernel
theorem d_X3_putItem_76 : decode cX3_putItem 76 = .ok (.aload_n 0, 1) := by decide +kernel
theorem d_X3_putItem_77 : decode cX3_putItem 77 = .ok (.aload_n 0, 1) := by decide +kernel
theorem d_X3_putItem_78 : decode cX3_putItem 78 = .ok (.getfield 44, 3) := by decide +kernel
theorem d_X3_putItem_81 : decode cX3_putItem 81 = .ok (.aload_n 0, 1) := by decide +kernel
theorem d_X3_putItem_82 : decode cX3_putItem 82 = .ok (.getfield 41, 3) := by decide +kernel
theorem d_X3_putItem_85 : decode cX3_putItem 85 = .ok (.invokestatic 55, 3) := by decide +kernel
theorem d_X3_putItem_88 : decode cX3_putItem 88 = .ok (.putfield 44, 3) := by decide +kernel
theorem d_X3_putItem_91 : decode cX3_putItem 91 = .ok (.return_, 1) := by decide +kernel
theorem b_X3_putItem_0 {X : cX} {d : Nat} {μ : mM} {K : Option Value → mM → Prop} {r0 : Nat} {l1 : Int32} {l2 : Int32} {l3 : Int32} {j0 : Nat} {j1 : Nat} {j2 : Nat} (hw3_r0 : WF3 μ r0) (hK : ¬ (e_X3_isFull μ r0) = 0 → K none μ) (hi_j0 : (e_X3_isFull μ r0) = 0 → (e_X3_taken μ l1) ≤ (iv μ r0 7) → iv μ r0 3 = nI j0) (hb : (e_X3_isFull μ r0) = 0 → (e_X3_taken μ l1) ≤ (iv μ r0 7) → j0 < 12) (hi_j1 : (e_X3_isFull μ r0) = 0 → (e_X3_taken μ l1) ≤ (iv μ r0 7) → iv (wi μ (r0 + 3) j0 l1) r0 3 = nI j1) (hb_2 : (e_X3_isFull μ r0) = 0 → (e_X3_taken μ l1) ≤ (iv μ r0 7) → j1 < 12) (hi_j2 : (e_X3_isFull μ r0) = 0 → (e_X3_taken μ l1) ≤ (iv μ r0 7) → iv (wi (wi μ (r0 + 3) j0 l1) (r0 + 4) j1 l2) r0 3 = nI j2) (hb_3 : (e_X3_isFull μ r0) = 0 → (e_X3_taken μ l1) ≤ (iv μ r0 7) → j2 < 12) (hK_2 : (e_X3_isFull μ r0) = 0 → (e_X3_taken μ l1) ≤ (iv μ r0 7) → K none (wi (wi (wi (wi (wi (wi μ (r0 + 3) j0 l1) (r0 + 4) j1 l2) (r0 + 5) j2 l3) r0 3 ((iv (wi (wi (wi μ (r0 + 3) j0 l1) (r0 + 4) j1 l2) (r0 + 5) j2 l3) r0 3) + 1)) r0 7 ((iv (wi (wi (wi (wi μ (r0 + 3) j0 l1) (r0 + 4) j1 l2) (r0 + 5) j2 l3) r0 3 ((iv (wi (wi (wi μ (r0 + 3) j0 l1) (r0 + 4) j1 l2) (r0 + 5) j2 l3) r0 3) + 1)) r0 7) + ((1 : Int32) - (e_X3_taken μ l1)))) r0 8 (if iv (wi (wi (wi (wi (wi μ (r0 + 3) j0 l1) (r0 + 4) j1 l2) (r0 + 5) j2 l3) r0 3 ((iv (wi (wi (wi μ (r0 + 3) j0 l1) (r0 + 4) j1 l2) (r0 + 5) j2 l3) r0 3) + 1)) r0 7 ((iv (wi (wi (wi (wi μ (r0 + 3) j0 l1) (r0 + 4) j1 l2) (r0 + 5) j2 l3) r0 3 ((iv (wi (wi (wi μ (r0 + 3) j0 l1) (r0 + 4) j1 l2) (r0 + 5) j2 l3) r0 3) + 1)) r0 7) + ((1 : Int32) - (e_X3_taken μ l1)))) r0 8 < iv (wi (wi (wi (wi (wi μ (r0 + 3) j0 l1) (r0 + 4) j1 l2) (r0 + 5) j2 l3) r0 3 ((iv (wi (wi (wi μ (r0 + 3) j0 l1) (r0 + 4) j1 l2) (r0 + 5) j2 l3) r0 3) + 1)) r0 7 ((iv (wi (wi (wi (wi μ (r0 + 3) j0 l1) (r0 + 4) j1 l2) (r0 + 5) j2 l3) r0 3 ((iv (wi (wi (wi μ (r0 + 3) j0 l1) (r0 + 4) j1 l2) (r0 + 5) j2 l3) r0 3) + 1)) r0 7) + ((1 : Int32) - (e_X3_taken μ l1)))) r0 7 then iv (wi (wi (wi (wi (wi μ (r0 + 3) j0 l1) (r0 + 4) j1 l2) (r0 + 5) j2 l3) r0 3 ((iv (wi (wi (wi μ (r0 + 3) j0 l1) (r0 + 4) j1 l2) (r0 + 5) j2 l3) r0 3) + 1)) r0 7 ((iv (wi (wi (wi (wi μ (r0 + 3) j0 l1) (r0 + 4) j1 l2) (r0 + 5) j2 l3) r0 3 ((iv (wi (wi (wi μ (r0 + 3) j0 l1) (r0 + 4) j1 l2) (r0 + 5) j2 l3) r0 3) + 1)) r0 7) + ((1 : Int32) - (e_X3_taken μ l1)))) r0 7 else iv (wi (wi (wi (wi (wi μ (r0 + 3) j0 l1) (r0 + 4) j1 l2) (r0 + 5) j2 l3) r0 3 ((iv (wi (wi (wi μ (r0 + 3) j0 l1) (r0 + 4) j1 l2) (r0 + 5) j2 l3) r0 3) + 1)) r0 7 ((iv (wi (wi (wi (wi μ (r0 + 3) j0 l1) (r0 + 4) j1 l2) (r0 + 5) j2 l3) r0 3 ((iv (wi (wi (wi μ (r0 + 3) j0 l1) (r0 + 4) j1 l2) (r0 + 5) j2 l3) r0 3) + 1)) r0 7) + ((1 : Int32) - (e_X3_taken μ l1)))) r0 8))) (hK_3 : (e_X3_isFull μ r0) = 0 → ¬ (e_X3_taken μ l1) ≤ (iv μ r0 7) → K none μ) : G X (Rm (d + 1)) mX3_putItem 0 [(0, .ref r0), (1, .int l1), (2, .int l2), (3, .int l3)] [] μ 0 0 K := by
  refine G_iload_n d_X3_putItem_0 rfl 1 rfl ?_
  refine G_callS (M' := mX3_taken) (R' := (Rm d)) (S := []) [.int l1] ok_X3_taken ml_X3_47 pn_X3_taken (ru_Rm (by decide)) (Nat.le_of_ble_eq_true rfl) d_X3_putItem_1 (s_X3_taken (μ := μ)   ?_)
  show G X (Rm (d + 1)) mX3_putItem 4 [(0, .ref r0), (1, .int l1), (2, .int l2), (3, .int l3)] [.int (e_X3_taken μ l1)] μ 0 0 K
  refine G_istore (L' := [(4, .int (e_X3_taken μ l1)), (0, .ref r0), (1, .int l1), (2, .int l2), (3, .int l3)]) d_X3_putItem_4 (by decide) rfl ?_
  refine G_aload_n d_X3_putItem_6 rfl 1 rfl ?_
  refine G_callV (M' := mX3_isFull) (R' := (Rm d)) (S := []) [] 3 (w3_kd hw3_r0) cok3 rfl ok_X3_isFull ml_X3_51 pn_X3_isFull (ru_Rm (by decide)) (Nat.le_of_ble_eq_true rfl) d_X3_putItem_7 (s_X3_isFull (μ := μ)  hw3_r0 ?_)
  show G X (Rm (d + 1)) mX3_putItem 10 [(4, .int (e_X3_taken μ l1)), (0, .ref r0), (1, .int l1), (2, .int l2), (3, .int l3)] [.int (e_X3_isFull μ r0)] μ 0 0 K
  refine G_if_ne (tgt := 22) d_X3_putItem_10 rfl (fun c0 => ?_) (fun c0 => ?_)
  ·
    exact G_vret rfl rfl rfl d_X3_putItem_22 (hK c0)
  ·
    refine G_aload_n d_X3_putItem_13 rfl 1 rfl ?_
    refine G_getI 3 7 (w3_kd hw3_r0) cok3 (by decide) rfl fl_X3_41 d_X3_putItem_14 ?_
    refine G_iload d_X3_putItem_17 0 rfl ?_
    refine G_icmp_ge (tgt := 23) d_X3_putItem_19 rfl (fun c1 => ?_) (fun c1 => ?_)
    ·
      refine G_aload_n d_X3_putItem_23 rfl 1 rfl ?_
      refine G_getR (r := r0 + 3) 3 4 (w3_kd hw3_r0) (w3_f4 hw3_r0) cok3 (by decide) rfl fl_X3_19 d_X3_putItem_24 ?_
      refine G_aload_n d_X3_putItem_27 rfl 1 rfl ?_
      refine G_getI 3 3 (w3_kd hw3_r0) cok3 (by decide) rfl fl_X3_38 d_X3_putItem_28 ?_
      refine G_iload_n d_X3_putItem_31 rfl 2 rfl ?_
      refine G_iast j0 (w3_k4 hw3_r0) (hi_j0 c0 c1) (hb c0 c1) d_X3_putItem_32 ?_
      refine G_aload_n d_X3_putItem_33 rfl 1 rfl ?_
      refine G_getR (r := r0 + 4) 3 5 (w3_kd hw3_r0) (w3_f5 hw3_r0) cok3 (by decide) rfl fl_X3_22 d_X3_putItem_34 ?_
      refine G_aload_n d_X3_putItem_37 rfl 1 rfl ?_
      refine G_getI 3 3 (w3_kd hw3_r0) cok3 (by decide) rfl fl_X3_38 d_X3_putItem_38 ?_
      refine G_iload_n d_X3_putItem_41 rfl 3 rfl ?_
      refine G_iast j1 (w3_k5 hw3_r0) (hi_j1 c0 c1) (hb_2 c0 c1) d_X3_putItem_42 ?_
      refine G_aload_n d_X3_putItem_43 rfl 1 rfl ?_
      refine G_getR (r := r0 + 5) 3 6 (w3_kd hw3_r0) (w3_f6 hw3_r0) cok3 (by decide) rfl fl_X3_25 d_X3_putItem_44 ?_
      refine G_aload_n d_X3_putItem_47 rfl 1 rfl ?_
      refine G_getI 3 3 (w3_kd hw3_r0) cok3 (by decide) rfl fl_X3_38 d_X3_putItem_48 ?_
      refine G_iload_n d_X3_putItem_51 rfl 4 rfl ?_
      refine G_iast j2 (w3_k6 hw3_r0) (hi_j2 c0 c1) (hb_3 c0 c1) d_X3_putItem_52 ?_
      refine G_aload_n d_X3_putItem_53 rfl 1 rfl ?_
      refine G_dup d_X3_putItem_54 rfl ?_
      refine G_getI 3 3 (w3_kd hw3_r0) cok3 (by decide) rfl fl_X3_38 d_X3_putItem_55 ?_
      refine G_iconst d_X3_putItem_58 ic_1 ?_
      refine G_iadd d_X3_putItem_59 ?_
      refine G_putI 3 3 (w3_kd hw3_r0) rfl rfl cok3 (by decide) rfl (Or.inl rfl) fl_X3_38 d_X3_putItem_60 ?_
      refine G_aload_n d_X3_putItem_63 rfl 1 rfl ?_
      refine G_dup d_X3_putItem_64 rfl ?_
      refine G_getI 3 7 (w3_kd hw3_r0) cok3 (by decide) rfl fl_X3_41 d_X3_putItem_65 ?_
      refine G_iconst d_X3_putItem_68 ic_1 ?_
      refine G_iload d_X3_putItem_69 0 rfl ?_
      refine G_isub d_X3_putItem_71 ?_
      refine G_iadd d_X3_putItem_72 ?_
      refine G_putI 3 7 (w3_kd hw3_r0) rfl rfl cok3 (by decide) rfl (Or.inl rfl) fl_X3_41 d_X3_putItem_73 ?_
      refine G_aload_n d_X3_putItem_76 rfl 1 rfl ?_
      refine G_aload_n d_X3_putItem_77 rfl 1 rfl ?_
      refine G_getI 3 8 (w3_kd hw3_r0) cok3 (by decide) rfl fl_X3_44 d_X3_putItem_78 ?_
      refine G_aload_n d_X3_putItem_81 rfl 1 rfl ?_
      refine G_getI 3 7 (w3_kd hw3_r0) cok3 (by decide) rfl fl_X3_41 d_X3_putItem_82 ?_
      refine G_max ml_X3_55 rb_Rm (Nat.le_of_ble_eq_true rfl) d_X3_putItem_85 ?_
      refine G_putI 3 8 (w3_kd hw3_r0) rfl rfl cok3 (by decide) rfl (Or.inl rfl) fl_X3_44 d_X3_putItem_88 ?_
      exact G_vret rfl rfl rfl d_X3_putItem_91 (hK_2 c0 c1)
    ·
      exact G_vret rfl rfl rfl d_X3_putItem_22 (hK_3 c0 c1)
theorem d_X3_truthOf_0 : decode cX3_truthOf 0 = .ok (.iload_n 2, 1) := by decide +kernel
theorem d_X3_truthOf_1 : decode cX3_truthOf 1 = .ok (.tableswitch 99 0 3 #[31, 46, 61, 81], 31) := by decide +kernel
theorem d_X3_truthOf_32 : decode cX3_truthOf 32 = .ok (.aload_n 1, 1) := by decide +kernel
theorem d_X3_truthOf_33 : decode cX3_truthOf 33 = .ok (.getfield 81, 3) := by decide +kernel
theorem d_X3_truthOf_36 : decode cX3_truthOf 36 = .ok (.iload_n 3, 1) := by decide +kernel
theorem d_X3_truthOf_37 : decode cX3_truthOf 37 = .ok (.aaload, 1) := by decide +kernel
theorem d_X3_truthOf_38 : decode cX3_truthOf 38 = .ok (.aload_n 0, 1) := by decide +kernel
theorem d_X3_truthOf_39 : decode cX3_truthOf 39 = .ok (.getfield 28, 3) := by decide +kernel
theorem d_X3_truthOf_42 : decode cX3_truthOf 42 = .ok (.iload 4, 2) := by decide +kernel
theorem d_X3_truthOf_44 : decode cX3_truthOf 44 = .ok (.iaload, 1) := by decide +kernel
theorem d_X3_truthOf_45 : decode cX3_truthOf 45 = .ok (.iaload, 1) := by decide +kernel
theorem d_X3_truthOf_46 : decode cX3_truthOf 46 = .ok (.ireturn, 1) := by decide +kernel
theorem d_X3_truthOf_47 : decode cX3_truthOf 47 = .ok (.aload_n 1, 1) := by decide +kernel
theorem d_X3_truthOf_48 : decode cX3_truthOf 48 = .ok (.getfield 85, 3) := by decide +kernel
theorem d_X3_truthOf_51 : decode cX3_truthOf 51 = .ok (.iload_n 3, 1) := by decide +kernel
theorem d_X3_truthOf_52 : decode cX3_truthOf 52 = .ok (.aaload, 1) := by decide +kernel
theorem d_X3_truthOf_53 : decode cX3_truthOf 53 = .ok (.aload_n 0, 1) := by decide +kernel
theorem d_X3_truthOf_54 : decode cX3_truthOf 54 = .ok (.getfield 28, 3) := by decide +kernel
theorem d_X3_truthOf_57 : decode cX3_truthOf 57 = .ok (.iload 4, 2) := by decide +kernel
theorem d_X3_truthOf_59 : decode cX3_truthOf 59 = .ok (.iaload, 1) := by decide +kernel
theorem d_X3_truthOf_60 : decode cX3_truthOf 60 = .ok (.iaload, 1) := by decide +kernel
theorem d_X3_truthOf_61 : decode cX3_truthOf 61 = .ok (.ireturn, 1) := by decide +kernel
theorem d_X3_truthOf_62 : decode cX3_truthOf 62 = .ok (.aload_n 1, 1) := by decide +kernel
theorem d_X3_truthOf_63 : decode cX3_truthOf 63 = .ok (.getfield 88, 3) := by decide +kernel
theorem d_X3_truthOf_66 : decode cX3_truthOf 66 = .ok (.aload_n 0, 1) := by decide +kernel
theorem d_X3_truthOf_67 : decode cX3_truthOf 67 = .ok (.getfield 28, 3) := by decide +kernel
theorem d_X3_truthOf_70 : decode cX3_truthOf 70 = .ok (.iload_n 3, 1) := by decide +kernel
theorem d_X3_truthOf_71 : decode cX3_truthOf 71 = .ok (.iaload, 1) := by decide +kernel
theorem d_X3_truthOf_72 : decode cX3_truthOf 72 = .ok (.aaload, 1) := by decide +kernel
theorem d_X3_truthOf_73 : decode cX3_truthOf 73 = .ok (.aload_n 0, 1) := by decide +kernel
theorem d_X3_truthOf_74 : decode cX3_truthOf 74 = .ok (.getfield 28, 3) := by decide +kernel
theorem d_X3_truthOf_77 : decode cX3_truthOf 77 = .ok (.iload 4, 2) := by decide +kernel
theorem d_X3_truthOf_79 : decode cX3_truthOf 79 = .ok (.iaload, 1) := by decide +kernel
theorem d_X3_truthOf_80 : decode cX3_truthOf 80 = .ok (.iaload, 1) := by decide +kernel
theorem d_X3_truthOf_81 : decode cX3_truthOf 81 = .ok (.ireturn, 1) := by decide +kernel
theorem d_X3_truthOf_82 : decode cX3_truthOf 82 = .ok (.aload_n 1, 1) := by decide +kernel
theorem d_X3_truthOf_83 : decode cX3_truthOf 83 = .ok (.aload_n 0, 1) := by decide +kernel
theorem d_X3_truthOf_84 : decode cX3_truthOf 84 = .ok (.getfield 28, 3) := by decide +kernel
theorem d_X3_truthOf_87 : decode cX3_truthOf 87 = .ok (.iload_n 3, 1) := by decide +kernel
theorem d_X3_truthOf_88 : decode cX3_truthOf 88 = .ok (.iaload, 1) := by decide +kernel
theorem d_X3_truthOf_89 : decode cX3_truthOf 89 = .ok (.aload_n 0, 1) := by decide +kernel
theorem d_X3_truthOf_90 : decode cX3_truthOf 90 = .ok (.getfield 28, 3) := by decide +kernel
theorem d_X3_truthOf_93 : decode cX3_truthOf 93 = .ok (.iload 4, 2) := by decide +kernel
theorem d_X3_truthOf_95 : decode cX3_truthOf 95 = .ok (.iaload, 1) := by decide +kernel
theorem d_X3_truthOf_96 : decode cX3_truthOf 96 = .ok (.invokevirtual 91, 3) := by decide +kernel
theorem d_X3_truthOf_99 : decode cX3_truthOf 99 = .ok (.ireturn, 1) := by decide +kernel
theorem d_X3_truthOf_100 : decode cX3_truthOf 100 = .ok (.aload_n 1, 1) := by decide +kernel
theorem d_X3_truthOf_101 : decode cX3_truthOf 101 = .ok (.getfield 94, 3) := by decide +kernel
theorem d_X3_truthOf_104 : decode cX3_truthOf 104 = .ok (.aload_n 0, 1) := by decide +kernel
theorem d_X3_truthOf_105 : decode cX3_truthOf 105 = .ok (.getfield 28, 3) := by decide +kernel
theorem d_X3_truthOf_108 : decode cX3_truthOf 108 = .ok (.iload_n 3, 1) := by decide +kernel
theorem d_X3_truthOf_109 : decode cX3_truthOf 109 = .ok (.iaload, 1) := by decide +kernel
theorem d_X3_truthOf_110 : decode cX3_truthOf 110 = .ok (.baload, 1) := by decide +kernel
theorem d_X3_truthOf_111 : decode cX3_truthOf 111 = .ok (.ifCond .eq 7, 3) := by decide +kernel
theorem d_X3_truthOf_114 : decode cX3_truthOf 114 = .ok (.iconst 2, 1) := by decide +kernel
theorem d_X3_truthOf_115 : decode cX3_truthOf 115 = .ok (.goto 4, 3) := by decide +kernel
theorem d_X3_truthOf_118 : decode cX3_truthOf 118 = .ok (.iconst 0, 1) := by decide +kernel
theorem d_X3_truthOf_119 : decode cX3_truthOf 119 = .ok (.ireturn, 1) := by decide +kernel
theorem b_X3_truthOf_0 {X : cX} {d : Nat} {μ : mM} {K : Option Value → mM → Prop} {r0 : Nat} {r1 : Nat} {l2 : Int32} {i3 : Nat} {i4 : Nat} {j0 : Nat} {j1 : Nat} (hw5_r1 : WF5 μ r1) (hb : l2 = 0 → i3 < 3) (hw3_r0 : WF3 μ r0) (hb_2 : l2 = 0 → i4 < 3) (hi_j0 : l2 = 0 → iv μ (r0 + 6) i4 = nI j0) (hb_3 : l2 = 0 → j0 < 6) (hK : l2 = 0 → K (some (.int (iv μ (r1 + 3 + i3) j0))) μ) (hb_4 : l2 = 1 → i3 < 3) (hb_5 : l2 = 1 → i4 < 3) (hi_j0_2 : l2 = 1 → iv μ (r0 + 6) i4 = nI j0) (hb_6 : l2 = 1 → j0 < 6) (hK_2 : l2 = 1 → K (some (.int (iv μ (r1 + 21 + i3) j0))) μ) (hb_7 : l2 = 2 → i3 < 3) (hi_j1 : l2 = 2 → iv μ (r0 + 6) i3 = nI j1) (hb_8 : l2 = 2 → j1 < 6) (hb_9 : l2 = 2 → i4 < 3) (hi_j0_3 : l2 = 2 → iv μ (r0 + 6) i4 = nI j0) (hb_10 : l2 = 2 → j0 < 6) (hK_3 : l2 = 2 → K (some (.int (iv μ (r1 + 7 + j1) j0))) μ) (hb_11 : l2 = 3 → i3 < 3) (hb_12 : l2 = 3 → i4 < 3) (hi_j1_2 : l2 = 3 → iv μ (r0 + 6) i3 = nI j1) (hs : l2 = 3 → ((nI j1) = (iv μ (r0 + 6) i4) → j1 < 6)) (hK_4 : l2 = 3 → K (some (.int (e_X5_sameness μ r1 j1 (iv μ (r0 + 6) i4)))) μ) (hb_13 : (l2.toInt < 0 ∨ 3 < l2.toInt) → i3 < 3) (hi_j1_3 : (l2.toInt < 0 ∨ 3 < l2.toInt) → iv μ (r0 + 6) i3 = nI j1) (hb_14 : (l2.toInt < 0 ∨ 3 < l2.toInt) → j1 < 6) (hK_5 : (l2.toInt < 0 ∨ 3 < l2.toInt) → (iv μ (r1 + 1) j1) = 0 → K (some (.int 0)) μ) (hK_6 : (l2.toInt < 0 ∨ 3 < l2.toInt) → ¬ (iv μ (r1 + 1) j1) = 0 → K (some (.int 2)) μ) : G X (Rm (d + 1)) mX3_truthOf 0 [(0, .ref r0), (1, .ref r1), (2, .int l2), (3, .int (nI i3)), (4, .int (nI i4))] [] μ 0 0 K := by
  refine G_iload_n d_X3_truthOf_0 rfl 2 rfl ?_
  by_cases c0 : l2 = 0
  ·
    refine G_tableIn (tgt := 32) (off := 31) d_X3_truthOf_1 (by rw [c0]; decide) (by rw [c0]; decide) (by rw [c0]; decide) rfl ?_
    refine G_aload_n d_X3_truthOf_32 rfl 1 rfl ?_
    refine G_getR (r := r1 + 2) 5 2 (w5_kd hw5_r1) (w5_f2 hw5_r1) cok5 (by decide) rfl fl_X3_81 d_X3_truthOf_33 ?_
    refine G_iload_n d_X3_truthOf_36 rfl 3 rfl ?_
    refine G_aaldA (r := r1 + 3 + i3) i3 (w5_k2 hw5_r1) rfl (hb c0) (w5_r2 hw5_r1 i3 (hb c0)) d_X3_truthOf_37 ?_
    refine G_aload_n d_X3_truthOf_38 rfl 0 rfl ?_
    refine G_getR (r := r0 + 6) 3 9 (w3_kd hw3_r0) (w3_f9 hw3_r0) cok3 (by decide) rfl fl_X3_28 d_X3_truthOf_39 ?_
    refine G_iload d_X3_truthOf_42 4 rfl ?_
    refine G_iald i4 (w3_k9 hw3_r0) rfl (hb_2 c0) d_X3_truthOf_44 ?_
    refine G_iald j0 (w5_q2 hw5_r1 i3 (hb c0)) (hi_j0 c0) (hb_3 c0) d_X3_truthOf_45 ?_
    exact G_iret rfl rfl rfl d_X3_truthOf_46 (hK c0)
  have z0 := lv_neT c0 (show (0 : Int32).toInt = 0 from rfl)
  by_cases c0 : l2 = 1
  ·
    refine G_tableIn (tgt := 47) (off := 46) d_X3_truthOf_1 (by rw [c0]; decide) (by rw [c0]; decide) (by rw [c0]; decide) rfl ?_
    refine G_aload_n d_X3_truthOf_47 rfl 1 rfl ?_
    refine G_getR (r := r1 + 20) 5 5 (w5_kd hw5_r1) (w5_f5 hw5_r1) cok5 (by decide) rfl fl_X3_85 d_X3_truthOf_48 ?_
    refine G_iload_n d_X3_truthOf_51 rfl 3 rfl ?_
    refine G_aaldA (r := r1 + 21 + i3) i3 (w5_k5 hw5_r1) rfl (hb_4 c0) (w5_r5 hw5_r1 i3 (hb_4 c0)) d_X3_truthOf_52 ?_
    refine G_aload_n d_X3_truthOf_53 rfl 0 rfl ?_
    refine G_getR (r := r0 + 6) 3 9 (w3_kd hw3_r0) (w3_f9 hw3_r0) cok3 (by decide) rfl fl_X3_28 d_X3_truthOf_54 ?_
    refine G_iload d_X3_truthOf_57 4 rfl ?_
    refine G_iald i4 (w3_k9 hw3_r0) rfl (hb_5 c0) d_X3_truthOf_59 ?_
    refine G_iald j0 (w5_q5 hw5_r1 i3 (hb_4 c0)) (hi_j0_2 c0) (hb_6 c0) d_X3_truthOf_60 ?_
    exact G_iret rfl rfl rfl d_X3_truthOf_61 (hK_2 c0)
  have z1 := lv_neT c0 (show (1 : Int32).toInt = 1 from rfl)
  by_cases c0 : l2 = 2
  ·
    refine G_tableIn (tgt := 62) (off := 61) d_X3_truthOf_1 (by rw [c0]; decide) (by rw [c0]; decide) (by rw [c0]; decide) rfl ?_
    refine G_aload_n d_X3_truthOf_62 rfl 1 rfl ?_
    refine G_getR (r := r1 + 6) 5 3 (w5_kd hw5_r1) (w5_f3 hw5_r1) cok5 (by decide) rfl fl_X3_88 d_X3_truthOf_63 ?_
    refine G_aload_n d_X3_truthOf_66 rfl 0 rfl ?_
    refine G_getR (r := r0 + 6) 3 9 (w3_kd hw3_r0) (w3_f9 hw3_r0) cok3 (by decide) rfl fl_X3_28 d_X3_truthOf_67 ?_
    refine G_iload_n d_X3_truthOf_70 rfl 3 rfl ?_
    refine G_iald i3 (w3_k9 hw3_r0) rfl (hb_7 c0) d_X3_truthOf_71 ?_
    refine G_aaldA (r := r1 + 7 + j1) j1 (w5_k3 hw5_r1) (hi_j1 c0) (hb_8 c0) (w5_r3 hw5_r1 j1 (hb_8 c0)) d_X3_truthOf_72 ?_
    refine G_aload_n d_X3_truthOf_73 rfl 0 rfl ?_
    refine G_getR (r := r0 + 6) 3 9 (w3_kd hw3_r0) (w3_f9 hw3_r0) cok3 (by decide) rfl fl_X3_28 d_X3_truthOf_74 ?_
    refine G_iload d_X3_truthOf_77 4 rfl ?_
    refine G_iald i4 (w3_k9 hw3_r0) rfl (hb_9 c0) d_X3_truthOf_79 ?_
    refine G_iald j0 (w5_q3 hw5_r1 j1 (hb_8 c0)) (hi_j0_3 c0) (hb_10 c0) d_X3_truthOf_80 ?_
    exact G_iret rfl rfl rfl d_X3_truthOf_81 (hK_3 c0)
  have z2 := lv_neT c0 (show (2 : Int32).toInt = 2 from rfl)
  by_cases c0 : l2 = 3
  ·
    refine G_tableIn (tgt := 82) (off := 81) d_X3_truthOf_1 (by rw [c0]; decide) (by rw [c0]; decide) (by rw [c0]; decide) rfl ?_
    refine G_aload_n d_X3_truthOf_82 rfl 1 rfl ?_
    refine G_aload_n d_X3_truthOf_83 rfl 0 rfl ?_
    refine G_getR (r := r0 + 6) 3 9 (w3_kd hw3_r0) (w3_f9 hw3_r0) cok3 (by decide) rfl fl_X3_28 d_X3_truthOf_84 ?_
    refine G_iload_n d_X3_truthOf_87 rfl 3 rfl ?_
    refine G_iald i3 (w3_k9 hw3_r0) rfl (hb_11 c0) d_X3_truthOf_88 ?_
    refine G_aload_n d_X3_truthOf_89 rfl 0 rfl ?_
    refine G_getR (r := r0 + 6) 3 9 (w3_kd hw3_r0) (w3_f9 hw3_r0) cok3 (by decide) rfl fl_X3_28 d_X3_truthOf_90 ?_
    refine G_iload d_X3_truthOf_93 4 rfl ?_
    refine G_iald i4 (w3_k9 hw3_r0) rfl (hb_12 c0) d_X3_truthOf_95 ?_
    refine G_stk (S' := [.int (iv μ (r0 + 6) i4), .int (nI j1), .ref r1]) (by rw [(hi_j1_2 c0)]) ?_
    refine G_callV (M' := mX5_sameness) (R' := (Rm d)) (S := []) [.int (nI j1), .int (iv μ (r0 + 6) i4)] 5 (w5_kd hw5_r1) cok5 rfl ok_X5_sameness ml_X3_91 pn_X5_sameness (ru_Rm (by decide)) (Nat.le_of_ble_eq_true rfl) d_X3_truthOf_96 (s_X5_sameness (μ := μ) (i1 := j1) hw5_r1 (hs c0) ?_)
    show G X (Rm (d + 1)) mX3_truthOf 99 [(0, .ref r0), (1, .ref r1), (2, .int l2), (3, .int (nI i3)), (4, .int (nI i4))] [.int (e_X5_sameness μ r1 j1 (iv μ (r0 + 6) i4))] μ 0 0 K
    exact G_iret rfl rfl rfl d_X3_truthOf_99 (hK_4 c0)
  have z3 := lv_neT c0 (show (3 : Int32).toInt = 3 from rfl)
  have c0 : l2.toInt < 0 ∨ 3 < l2.toInt := by omega
  refine G_tableOut (tgt := 100) d_X3_truthOf_1 c0 rfl ?_
  refine G_aload_n d_X3_truthOf_100 rfl 1 rfl ?_
  refine G_getR (r := r1 + 1) 5 1 (w5_kd hw5_r1) (w5_f1 hw5_r1) cok5 (by decide) rfl fl_X3_94 d_X3_truthOf_101 ?_
  refine G_aload_n d_X3_truthOf_104 rfl 0 rfl ?_
  refine G_getR (r := r0 + 6) 3 9 (w3_kd hw3_r0) (w3_f9 hw3_r0) cok3 (by decide) rfl fl_X3_28 d_X3_truthOf_105 ?_
  refine G_iload_n d_X3_truthOf_108 rfl 3 rfl ?_
  refine G_iald i3 (w3_k9 hw3_r0) rfl (hb_13 c0) d_X3_truthOf_109 ?_
  refine G_zald j1 (w5_k1 hw5_r1) (hi_j1_3 c0) (hb_14 c0) d_X3_truthOf_110 ?_
  refine G_if_eq (tgt := 118) d_X3_truthOf_111 rfl (fun c1 => ?_) (fun c1 => ?_)
  ·
    refine G_iconst d_X3_truthOf_118 ic_0 ?_
    exact G_iret rfl rfl rfl d_X3_truthOf_119 (hK_5 c0 c1)
  ·
    refine G_iconst d_X3_truthOf_114 ic_2 ?_
    refine G_goto (tgt := 119) d_X3_truthOf_115 rfl ?_
    exact G_iret rfl rfl rfl d_X3_truthOf_119 (hK_6 c0 c1)
theorem d_X3_worthOfItems_0 : decode cX3_worthOfItems 0 = .ok (.iconst (-1), 1) := by decide +kernel
theorem d_X3_worthOfItems_1 : decode cX3_worthOfItems 1 = .ok (.istore_n 2, 1) := by decide +kernel
theorem d_X3_worthOfItems_2 : decode cX3_worthOfItems 2 = .ok (.iconst 0, 1) := by decide +kernel
theorem d_X3_worthOfItems_3 : decode cX3_worthOfItems 3 = .ok (.istore_n 3, 1) := by decide +kernel
theorem d_X3_worthOfItems_4 : decode cX3_worthOfItems 4 = .ok (.iload_n 3, 1) := by decide +kernel
theorem d_X3_worthOfItems_5 : decode cX3_worthOfItems 5 = .ok (.aload_n 0, 1) := by decide +kernel
theorem d_X3_worthOfItems_6 : decode cX3_worthOfItems 6 = .ok (.getfield 38, 3) := by decide +kernel
theorem d_X3_worthOfItems_9 : decode cX3_worthOfItems 9 = .ok (.if_icmp .ge 159, 3) := by decide +kernel
theorem d_X3_worthOfItems_12 : decode cX3_worthOfItems 12 = .ok (.iload_n 3, 1) := by decide +kernel
theorem d_X3_worthOfItems_13 : decode cX3_worthOfItems 13 = .ok (.bipush 12, 2) := by decide +kernel
theorem d_X3_worthOfItems_15 : decode cX3_worthOfItems 15 = .ok (.if_icmp .ge 153, 3) := by decide +kernel
theorem d_X3_worthOfItems_18 : decode cX3_worthOfItems 18 = .ok (.aload_n 0, 1) := by decide +kernel
theorem d_X3_worthOfItems_19 : decode cX3_worthOfItems 19 = .ok (.getfield 19, 3) := by decide +kernel
theorem d_X3_worthOfItems_22 : decode cX3_worthOfItems 22 = .ok (.iload_n 3, 1) := by decide +kernel
theorem d_X3_worthOfItems_23 : decode cX3_worthOfItems 23 = .ok (.iaload, 1) := by decide +kernel
theorem d_X3_worthOfItems_24 : decode cX3_worthOfItems 24 = .ok (.istore 4, 2) := by decide +kernel
theorem d_X3_worthOfItems_26 : decode cX3_worthOfItems 26 = .ok (.iload_n 2, 1) := by decide +kernel
theorem d_X3_worthOfItems_27 : decode cX3_worthOfItems 27 = .ok (.iconst 1, 1) := by decide +kernel
theorem d_X3_worthOfItems_28 : decode cX3_worthOfItems 28 = .ok (.iadd, 1) := by decide +kernel
theorem d_X3_worthOfItems_29 : decode cX3_worthOfItems 29 = .ok (.iload 4, 2) := by decide +kernel
theorem d_X3_worthOfItems_31 : decode cX3_worthOfItems 31 = .ok (.invokestatic 47, 3) := by decide +kernel
theorem d_X3_worthOfItems_34 : decode cX3_worthOfItems 34 = .ok (.if_icmp .ge 5, 3) := by decide +kernel
theorem d_X3_worthOfItems_37 : decode cX3_worthOfItems 37 = .ok (.iconst 0, 1) := by decide +kernel
theorem d_X3_worthOfItems_38 : decode cX3_worthOfItems 38 = .ok (.ireturn, 1) := by decide +kernel
theorem d_X3_worthOfItems_39 : decode cX3_worthOfItems 39 = .ok (.iload 4, 2) := by decide +kernel
theorem d_X3_worthOfItems_41 : decode cX3_worthOfItems 41 = .ok (.iconst 5, 1) := by decide +kernel
theorem d_X3_worthOfItems_42 : decode cX3_worthOfItems 42 = .ok (.if_icmp .ne 20, 3) := by decide +kernel
theorem d_X3_worthOfItems_45 : decode cX3_worthOfItems 45 = .ok (.aload_n 0, 1) := by decide +kernel
theorem d_X3_worthOfItems_46 : decode cX3_worthOfItems 46 = .ok (.getfield 31, 3) := by decide +kernel
theorem d_X3_worthOfItems_49 : decode cX3_worthOfItems 49 = .ok (.iload_n 2, 1) := by decide +kernel
theorem d_X3_worthOfItems_50 : decode cX3_worthOfItems 50 = .ok (.iconst 2, 1) := by decide +kernel
theorem d_X3_worthOfItems_51 : decode cX3_worthOfItems 51 = .ok (.aload_n 0, 1) := by decide +kernel
theorem d_X3_worthOfItems_52 : decode cX3_worthOfItems 52 = .ok (.getfield 31, 3) := by decide +kernel
theorem d_X3_worthOfItems_55 : decode cX3_worthOfItems 55 = .ok (.iload_n 2, 1) := by decide +kernel
theorem d_X3_worthOfItems_56 : decode cX3_worthOfItems 56 = .ok (.iaload, 1) := by decide +kernel
theorem d_X3_worthOfItems_57 : decode cX3_worthOfItems 57 = .ok (.isub, 1) := by decide +kernel
theorem d_X3_worthOfItems_58 : decode cX3_worthOfItems 58 = .ok (.iastore, 1) := by decide +kernel
theorem d_X3_worthOfItems_59 : decode cX3_worthOfItems 59 = .ok (.goto 103, 3) := by decide +kernel
theorem d_X3_worthOfItems_62 : decode cX3_worthOfItems 62 = .ok (.iload 4, 2) := by decide +kernel
theorem d_X3_worthOfItems_64 : decode cX3_worthOfItems 64 = .ok (.bipush 6, 2) := by decide +kernel
theorem d_X3_worthOfItems_66 : decode cX3_worthOfItems 66 = .ok (.if_icmp .ne 32, 3) := by decide +kernel
theorem d_X3_worthOfItems_69 : decode cX3_worthOfItems 69 = .ok (.iinc 2 (-1), 3) := by decide +kernel
theorem d_X3_worthOfItems_72 : decode cX3_worthOfItems 72 = .ok (.aload_n 0, 1) := by decide +kernel
theorem d_X3_worthOfItems_73 : decode cX3_worthOfItems 73 = .ok (.getfield 31, 3) := by decide +kernel
theorem d_X3_worthOfItems_76 : decode cX3_worthOfItems 76 = .ok (.iload_n 2, 1) := by decide +kernel
theorem d_X3_worthOfItems_77 : decode cX3_worthOfItems 77 = .ok (.aload_n 0, 1) := by decide +kernel
theorem d_X3_worthOfItems_78 : decode cX3_worthOfItems 78 = .ok (.getfield 31, 3) := by decide +kernel
theorem d_X3_worthOfItems_81 : decode cX3_worthOfItems 81 = .ok (.iload_n 2, 1) := by decide +kernel
theorem d_X3_worthOfItems_82 : decode cX3_worthOfItems 82 = .ok (.iaload, 1) := by decide +kernel
theorem d_X3_worthOfItems_83 : decode cX3_worthOfItems 83 = .ok (.aload_n 0, 1) := by decide +kernel
theorem d_X3_worthOfItems_84 : decode cX3_worthOfItems 84 = .ok (.getfield 31, 3) := by decide +kernel
theorem d_X3_worthOfItems_87 : decode cX3_worthOfItems 87 = .ok (.iload_n 2, 1) := by decide +kernel
theorem d_X3_worthOfItems_88 : decode cX3_worthOfItems 88 = .ok (.iconst 1, 1) := by decide +kernel
theorem d_X3_worthOfItems_89 : decode cX3_worthOfItems 89 = .ok (.iadd, 1) := by decide +kernel
theorem d_X3_worthOfItems_90 : decode cX3_worthOfItems 90 = .ok (.iaload, 1) := by decide +kernel
theorem d_X3_worthOfItems_91 : decode cX3_worthOfItems 91 = .ok (.invokestatic 74, 3) := by decide +kernel
theorem d_X3_worthOfItems_94 : decode cX3_worthOfItems 94 = .ok (.iastore, 1) := by decide +kernel
theorem d_X3_worthOfItems_95 : decode cX3_worthOfItems 95 = .ok (.goto 67, 3) := by decide +kernel
theorem d_X3_worthOfItems_98 : decode cX3_worthOfItems 98 = .ok (.iload 4, 2) := by decide +kernel
theorem d_X3_worthOfItems_100 : decode cX3_worthOfItems 100 = .ok (.bipush 7, 2) := by decide +kernel
theorem d_X3_worthOfItems_102 : decode cX3_worthOfItems 102 = .ok (.if_icmp .ne 32, 3) := by decide +kernel
theorem d_X3_worthOfItems_105 : decode cX3_worthOfItems 105 = .ok (.iinc 2 (-1), 3) := by decide +kernel
theorem d_X3_worthOfItems_108 : decode cX3_worthOfItems 108 = .ok (.aload_n 0, 1) := by decide +kernel
theorem d_X3_worthOfItems_109 : decode cX3_worthOfItems 109 = .ok (.getfield 31, 3) := by decide +kernel
theorem d_X3_worthOfItems_112 : decode cX3_worthOfItems 112 = .ok (.iload_n 2, 1) := by decide +kernel
theorem d_X3_worthOfItems_113 : decode cX3_worthOfItems 113 = .ok (.aload_n 0, 1) := by decide +kernel
theorem d_X3_worthOfItems_114 : decode cX3_worthOfItems 114 = .ok (.getfield 31, 3) := by decide +kernel
theorem d_X3_worthOfItems_117 : decode cX3_worthOfItems 117 = .ok (.iload_n 2, 1) := by decide +kernel
theorem d_X3_worthOfItems_118 : decode cX3_worthOfItems 118 = .ok (.iaload, 1) := by decide +kernel
theorem d_X3_worthOfItems_119 : decode cX3_worthOfItems 119 = .ok (.aload_n 0, 1) := by decide +kernel
theorem d_X3_worthOfItems_120 : decode cX3_worthOfItems 120 = .ok (.getfield 31, 3) := by decide +kernel
theorem d_X3_worthOfItems_123 : decode cX3_worthOfItems 123 = .ok (.iload_n 2, 1) := by decide +kernel
theorem d_X3_worthOfItems_124 : decode cX3_worthOfItems 124 = .ok (.iconst 1, 1) := by decide +kernel
theorem d_X3_worthOfItems_125 : decode cX3_worthOfItems 125 = .ok (.iadd, 1) := by decide +kernel
theorem d_X3_worthOfItems_126 : decode cX3_worthOfItems 126 = .ok (.iaload, 1) := by decide +kernel
theorem d_X3_worthOfItems_127 : decode cX3_worthOfItems 127 = .ok (.invokestatic 55, 3) := by decide +kernel
theorem d_X3_worthOfItems_130 : decode cX3_worthOfItems 130 = .ok (.iastore, 1) := by decide +kernel
theorem d_X3_worthOfItems_131 : decode cX3_worthOfItems 131 = .ok (.goto 31, 3) := by decide +kernel
theorem d_X3_worthOfItems_134 : decode cX3_worthOfItems 134 = .ok (.iinc 2 1, 3) := by decide +kernel
theorem d_X3_worthOfItems_137 : decode cX3_worthOfItems 137 = .ok (.aload_n 0, 1) := by decide +kernel
theorem d_X3_worthOfItems_138 : decode cX3_worthOfItems 138 = .ok (.getfield 31, 3) := by decide +kernel
theorem d_X3_worthOfItems_141 : decode cX3_worthOfItems 141 = .ok (.iload_n 2, 1) := by decide +kernel
theorem d_X3_worthOfItems_142 : decode cX3_worthOfItems 142 = .ok (.aload_n 0, 1) := by decide +kernel
theorem d_X3_worthOfItems_143 : decode cX3_worthOfItems 143 = .ok (.aload_n 1, 1) := by decide +kernel
theorem d_X3_worthOfItems_144 : decode cX3_worthOfItems 144 = .ok (.iload 4, 2) := by decide +kernel
theorem d_X3_worthOfItems_146 : decode cX3_worthOfItems 146 = .ok (.aload_n 0, 1) := by decide +kernel
theorem d_X3_worthOfItems_147 : decode cX3_worthOfItems 147 = .ok (.getfield 22, 3) := by decide +kernel
theorem d_X3_worthOfItems_150 : decode cX3_worthOfItems 150 = .ok (.iload_n 3, 1) := by decide +kernel
theorem d_X3_worthOfItems_151 : decode cX3_worthOfItems 151 = .ok (.iaload, 1) := by decide +kernel
theorem d_X3_worthOfItems_152 : decode cX3_worthOfItems 152 = .ok (.aload_n 0, 1) := by decide +kernel
theorem d_X3_worthOfItems_153 : decode cX3_worthOfItems 153 = .ok (.getfield 25, 3) := by decide +kernel
theorem d_X3_worthOfItems_156 : decode cX3_worthOfItems 156 = .ok (.iload_n 3, 1) := by decide +kernel
theorem d_X3_worthOfItems_157 : decode cX3_worthOfItems 157 = .ok (.iaload, 1) := by decide +kernel
theorem d_X3_worthOfItems_158 : decode cX3_worthOfItems 158 = .ok (.invokevirtual 77, 3) := by decide +kernel
theorem d_X3_worthOfItems_161 : decode cX3_worthOfItems 161 = .ok (.iastore, 1) := by decide +kernel
theorem d_X3_worthOfItems_162 : decode cX3_worthOfItems 162 = .ok (.iinc 3 1, 3) := by decide +kernel
theorem d_X3_worthOfItems_165 : decode cX3_worthOfItems 165 = .ok (.goto (-161), 3) := by decide +kernel
theorem d_X3_worthOfItems_168 : decode cX3_worthOfItems 168 = .ok (.aload_n 0, 1) := by decide +kernel
theorem d_X3_worthOfItems_169 : decode cX3_worthOfItems 169 = .ok (.getfield 31, 3) := by decide +kernel
theorem d_X3_worthOfItems_172 : decode cX3_worthOfItems 172 = .ok (.iconst 0, 1) := by decide +kernel
theorem d_X3_worthOfItems_173 : decode cX3_worthOfItems 173 = .ok (.iaload, 1) := by decide +kernel
theorem d_X3_worthOfItems_174 : decode cX3_worthOfItems 174 = .ok (.ireturn, 1) := by decide +kernel
theorem b_X3_worthOfItems_0 {X : cX} {d : Nat} {μ : mM} {K : Option Value → mM → Prop} {r0 : Nat} {r1 : Nat} (h : G X (Rm (d + 2)) mX3_worthOfItems 4 [(0, .ref r0), (1, .ref r1), (2, .int (-1)), (3, .int (nI 0))] [] μ 0 0 K) : G X (Rm (d + 2)) mX3_worthOfItems 0 [(0, .ref r0), (1, .ref r1)] [] μ 0 0 K := by
  refine G_iconst d_X3_worthOfItems_0 ic_m1 ?_
  refine G_istore_n (L' := [(2, .int (-1)), (0, .ref r0), (1, .ref r1)]) d_X3_worthOfItems_1 rfl (by decide) rfl ?_
  refine G_iconst d_X3_worthOfItems_2 ic_0 ?_
  refine G_istore_n (L' := [(3, .int (nI 0)), (2, .int (-1)), (0, .ref r0), (1, .ref r1)]) d_X3_worthOfItems_3 rfl (by decide) rfl ?_
  refine G_sub (L' := [(0, .ref r0), (1, .ref r1), (2, .int (-1)), (3, .int (nI 0))]) [2, 3, 1, 0] rfl ?_
  exact h
theorem b_X3_worthOfItems_4 {X : cX} {d : Nat} {μ : mM} {K : Option Value → mM → Prop} {r0 : Nat} {r1 : Nat} {l2 : Int32} {i3 : Nat} {j0 : Nat} {j1 : Nat} {j2 : Nat} (hw3_r0 : WF3 μ r0) (h : (iv μ r0 3) ≤ (nI i3) → G X (Rm (d + 2)) mX3_worthOfItems 168 [(0, .ref r0)] [] μ 0 0 K) (h_2 : ¬ (iv μ r0 3) ≤ (nI i3) → (12 : Int32) ≤ (nI i3) → G X (Rm (d + 2)) mX3_worthOfItems 168 [(0, .ref r0)] [] μ 0 0 K) (hb : ¬ (iv μ r0 3) ≤ (nI i3) → ¬ (12 : Int32) ≤ (nI i3) → i3 < 12) (hb_2 : ¬ (iv μ r0 3) ≤ (nI i3) → ¬ (12 : Int32) ≤ (nI i3) → (e_X3_taken μ (iv μ (r0 + 3) i3)) ≤ (l2 + 1) → ¬ (iv μ (r0 + 3) i3) = (5 : Int32) → ¬ (iv μ (r0 + 3) i3) = (6 : Int32) → ¬ (iv μ (r0 + 3) i3) = (7 : Int32) → i3 < 12) (hc_truthOf : ¬ (iv μ r0 3) ≤ (nI i3) → ¬ (12 : Int32) ≤ (nI i3) → (e_X3_taken μ (iv μ (r0 + 3) i3)) ≤ (l2 + 1) → ¬ (iv μ (r0 + 3) i3) = (5 : Int32) → ¬ (iv μ (r0 + 3) i3) = (6 : Int32) → ¬ (iv μ (r0 + 3) i3) = (7 : Int32) → Ct X (Rm (d + 1)) mX3_truthOf [.ref r0, .ref r1, .int (iv μ (r0 + 3) i3), .int (iv μ (r0 + 4) i3), .int (iv μ (r0 + 5) i3)] μ (fun r μ2 => G X (Rm (d + 2)) mX3_worthOfItems 161 [(0, .ref r0), (1, .ref r1), (2, .int (l2 + 1)), (3, .int (nI i3))] (r.toList ++ [.int (l2 + 1), .ref (r0 + 7)]) μ2 0 0 K)) (hi_j0 : ¬ (iv μ r0 3) ≤ (nI i3) → ¬ (12 : Int32) ≤ (nI i3) → (e_X3_taken μ (iv μ (r0 + 3) i3)) ≤ (l2 + 1) → ¬ (iv μ (r0 + 3) i3) = (5 : Int32) → ¬ (iv μ (r0 + 3) i3) = (6 : Int32) → (iv μ (r0 + 3) i3) = (7 : Int32) → l2 + (-1) = nI j0) (hb_3 : ¬ (iv μ r0 3) ≤ (nI i3) → ¬ (12 : Int32) ≤ (nI i3) → (e_X3_taken μ (iv μ (r0 + 3) i3)) ≤ (l2 + 1) → ¬ (iv μ (r0 + 3) i3) = (5 : Int32) → ¬ (iv μ (r0 + 3) i3) = (6 : Int32) → (iv μ (r0 + 3) i3) = (7 : Int32) → j0 < 12) (hi_j1 : ¬ (iv μ r0 3) ≤ (nI i3) → ¬ (12 : Int32) ≤ (nI i3) → (e_X3_taken μ (iv μ (r0 + 3) i3)) ≤ (l2 + 1) → ¬ (iv μ (r0 + 3) i3) = (5 : Int32) → ¬ (iv μ (r0 + 3) i3) = (6 : Int32) → (iv μ (r0 + 3) i3) = (7 : Int32) → (l2 + (-1)) + 1 = nI j1) (hb_4 : ¬ (iv μ r0 3) ≤ (nI i3) → ¬ (12 : Int32) ≤ (nI i3) → (e_X3_taken μ (iv μ (r0 + 3) i3)) ≤ (l2 + 1) → ¬ (iv μ (r0 + 3) i3) = (5 : Int32) → ¬ (iv μ (r0 + 3) i3) = (6 : Int32) → (iv μ (r0 + 3) i3) = (7 : Int32) → j1 < 12) (h_3 : ¬ (iv μ r0 3) ≤ (nI i3) → ¬ (12 : Int32) ≤ (nI i3) → (e_X3_taken μ (iv μ (r0 + 3) i3)) ≤ (l2 + 1) → ¬ (iv μ (r0 + 3) i3) = (5 : Int32) → ¬ (iv μ (r0 + 3) i3) = (6 : Int32) → (iv μ (r0 + 3) i3) = (7 : Int32) → G X (Rm (d + 2)) mX3_worthOfItems 162 [(0, .ref r0), (1, .ref r1), (2, .int (l2 + (-1))), (3, .int (nI i3))] [] (wi μ (r0 + 7) j0 (if iv μ (r0 + 7) j0 < iv μ (r0 + 7) j1 then iv μ (r0 + 7) j1 else iv μ (r0 + 7) j0)) 0 0 K) (hi_j0_2 : ¬ (iv μ r0 3) ≤ (nI i3) → ¬ (12 : Int32) ≤ (nI i3) → (e_X3_taken μ (iv μ (r0 + 3) i3)) ≤ (l2 + 1) → ¬ (iv μ (r0 + 3) i3) = (5 : Int32) → (iv μ (r0 + 3) i3) = (6 : Int32) → l2 + (-1) = nI j0) (hb_5 : ¬ (iv μ r0 3) ≤ (nI i3) → ¬ (12 : Int32) ≤ (nI i3) → (e_X3_taken μ (iv μ (r0 + 3) i3)) ≤ (l2 + 1) → ¬ (iv μ (r0 + 3) i3) = (5 : Int32) → (iv μ (r0 + 3) i3) = (6 : Int32) → j0 < 12) (hi_j1_2 : ¬ (iv μ r0 3) ≤ (nI i3) → ¬ (12 : Int32) ≤ (nI i3) → (e_X3_taken μ (iv μ (r0 + 3) i3)) ≤ (l2 + 1) → ¬ (iv μ (r0 + 3) i3) = (5 : Int32) → (iv μ (r0 + 3) i3) = (6 : Int32) → (l2 + (-1)) + 1 = nI j1) (hb_6 : ¬ (iv μ r0 3) ≤ (nI i3) → ¬ (12 : Int32) ≤ (nI i3) → (e_X3_taken μ (iv μ (r0 + 3) i3)) ≤ (l2 + 1) → ¬ (iv μ (r0 + 3) i3) = (5 : Int32) → (iv μ (r0 + 3) i3) = (6 : Int32) → j1 < 12) (h_4 : ¬ (iv μ r0 3) ≤ (nI i3) → ¬ (12 : Int32) ≤ (nI i3) → (e_X3_taken μ (iv μ (r0 + 3) i3)) ≤ (l2 + 1) → ¬ (iv μ (r0 + 3) i3) = (5 : Int32) → (iv μ (r0 + 3) i3) = (6 : Int32) → G X (Rm (d + 2)) mX3_worthOfItems 162 [(0, .ref r0), (1, .ref r1), (2, .int (l2 + (-1))), (3, .int (nI i3))] [] (wi μ (r0 + 7) j0 (if iv μ (r0 + 7) j1 < iv μ (r0 + 7) j0 then iv μ (r0 + 7) j1 else iv μ (r0 + 7) j0)) 0 0 K) (hi_j2 : ¬ (iv μ r0 3) ≤ (nI i3) → ¬ (12 : Int32) ≤ (nI i3) → (e_X3_taken μ (iv μ (r0 + 3) i3)) ≤ (l2 + 1) → (iv μ (r0 + 3) i3) = (5 : Int32) → l2 = nI j2) (hb_7 : ¬ (iv μ r0 3) ≤ (nI i3) → ¬ (12 : Int32) ≤ (nI i3) → (e_X3_taken μ (iv μ (r0 + 3) i3)) ≤ (l2 + 1) → (iv μ (r0 + 3) i3) = (5 : Int32) → j2 < 12) (h_5 : ¬ (iv μ r0 3) ≤ (nI i3) → ¬ (12 : Int32) ≤ (nI i3) → (e_X3_taken μ (iv μ (r0 + 3) i3)) ≤ (l2 + 1) → (iv μ (r0 + 3) i3) = (5 : Int32) → G X (Rm (d + 2)) mX3_worthOfItems 162 [(0, .ref r0), (1, .ref r1), (2, .int l2), (3, .int (nI i3))] [] (wi μ (r0 + 7) j2 ((2 : Int32) - (iv μ (r0 + 7) j2))) 0 0 K) (hK : ¬ (iv μ r0 3) ≤ (nI i3) → ¬ (12 : Int32) ≤ (nI i3) → ¬ (e_X3_taken μ (iv μ (r0 + 3) i3)) ≤ (l2 + 1) → K (some (.int 0)) μ) : G X (Rm (d + 2)) mX3_worthOfItems 4 [(0, .ref r0), (1, .ref r1), (2, .int l2), (3, .int (nI i3))] [] μ 0 0 K := by
  refine G_iload_n d_X3_worthOfItems_4 rfl 3 rfl ?_
  refine G_aload_n d_X3_worthOfItems_5 rfl 0 rfl ?_
  refine G_getI 3 3 (w3_kd hw3_r0) cok3 (by decide) rfl fl_X3_38 d_X3_worthOfItems_6 ?_
  refine G_icmp_ge (tgt := 168) d_X3_worthOfItems_9 rfl (fun c0 => ?_) (fun c0 => ?_)
  ·
    refine G_sub (L' := [(0, .ref r0)]) [0] rfl ?_
    exact (h c0)
  ·
    refine G_iload_n d_X3_worthOfItems_12 rfl 3 rfl ?_
    refine G_bipush d_X3_worthOfItems_13 bp_12 ?_
    refine G_icmp_ge (tgt := 168) d_X3_worthOfItems_15 rfl (fun c1 => ?_) (fun c1 => ?_)
    ·
      refine G_sub (L' := [(0, .ref r0)]) [0] rfl ?_
      exact (h_2 c0 c1)
    ·
      refine G_aload_n d_X3_worthOfItems_18 rfl 0 rfl ?_
      refine G_getR (r := r0 + 3) 3 4 (w3_kd hw3_r0) (w3_f4 hw3_r0) cok3 (by decide) rfl fl_X3_19 d_X3_worthOfItems_19 ?_
      refine G_iload_n d_X3_worthOfItems_22 rfl 3 rfl ?_
      refine G_iald i3 (w3_k4 hw3_r0) rfl (hb c0 c1) d_X3_worthOfItems_23 ?_
      refine G_istore (L' := [(4, .int (iv μ (r0 + 3) i3)), (0, .ref r0), (1, .ref r1), (2, .int l2), (3, .int (nI i3))]) d_X3_worthOfItems_24 (by decide) rfl ?_
      refine G_iload_n d_X3_worthOfItems_26 rfl 3 rfl ?_
      refine G_iconst d_X3_worthOfItems_27 ic_1 ?_
      refine G_iadd d_X3_worthOfItems_28 ?_
      refine G_iload d_X3_worthOfItems_29 0 rfl ?_
      refine G_callS (M' := mX3_taken) (R' := (Rm (d + 1))) (S := [.int (l2 + 1)]) [.int (iv μ (r0 + 3) i3)] ok_X3_taken ml_X3_47 pn_X3_taken (ru_Rm (by decide)) (Nat.le_of_ble_eq_true rfl) d_X3_worthOfItems_31 (s_X3_taken (μ := μ)   ?_)
      show G X (Rm (d + 2)) mX3_worthOfItems 34 [(4, .int (iv μ (r0 + 3) i3)), (0, .ref r0), (1, .ref r1), (2, .int l2), (3, .int (nI i3))] [.int (e_X3_taken μ (iv μ (r0 + 3) i3)), .int (l2 + 1)] μ 0 0 K
      refine G_icmp_ge (tgt := 39) d_X3_worthOfItems_34 rfl (fun c2 => ?_) (fun c2 => ?_)
      ·
        refine G_iload d_X3_worthOfItems_39 0 rfl ?_
        refine G_iconst d_X3_worthOfItems_41 ic_5 ?_
        refine G_icmp_ne (tgt := 62) d_X3_worthOfItems_42 rfl (fun c3 => ?_) (fun c3 => ?_)
        ·
          refine G_iload d_X3_worthOfItems_62 0 rfl ?_
          refine G_bipush d_X3_worthOfItems_64 bp_6 ?_
          refine G_icmp_ne (tgt := 98) d_X3_worthOfItems_66 rfl (fun c4 => ?_) (fun c4 => ?_)
          ·
            refine G_iload d_X3_worthOfItems_98 0 rfl ?_
            refine G_bipush d_X3_worthOfItems_100 bp_7 ?_
            refine G_icmp_ne (tgt := 134) d_X3_worthOfItems_102 rfl (fun c5 => ?_) (fun c5 => ?_)
            ·
              refine G_iinc (L' := [(2, .int (l2 + 1)), (4, .int (iv μ (r0 + 3) i3)), (0, .ref r0), (1, .ref r1), (3, .int (nI i3))]) d_X3_worthOfItems_134 3 rfl (incI _) (by decide) rfl ?_
              refine G_aload_n d_X3_worthOfItems_137 rfl 2 rfl ?_
              refine G_getR (r := r0 + 7) 3 10 (w3_kd hw3_r0) (w3_f10 hw3_r0) cok3 (by decide) rfl fl_X3_31 d_X3_worthOfItems_138 ?_
              refine G_iload_n d_X3_worthOfItems_141 rfl 0 rfl ?_
              refine G_aload_n d_X3_worthOfItems_142 rfl 2 rfl ?_
              refine G_aload_n d_X3_worthOfItems_143 rfl 3 rfl ?_
              refine G_iload d_X3_worthOfItems_144 1 rfl ?_
              refine G_aload_n d_X3_worthOfItems_146 rfl 2 rfl ?_
              refine G_getR (r := r0 + 4) 3 5 (w3_kd hw3_r0) (w3_f5 hw3_r0) cok3 (by decide) rfl fl_X3_22 d_X3_worthOfItems_147 ?_
              refine G_iload_n d_X3_worthOfItems_150 rfl 4 rfl ?_
              refine G_iald i3 (w3_k5 hw3_r0) rfl (hb_2 c0 c1 c2 c3 c4 c5) d_X3_worthOfItems_151 ?_
              refine G_aload_n d_X3_worthOfItems_152 rfl 2 rfl ?_
              refine G_getR (r := r0 + 5) 3 6 (w3_kd hw3_r0) (w3_f6 hw3_r0) cok3 (by decide) rfl fl_X3_25 d_X3_worthOfItems_153 ?_
              refine G_iload_n d_X3_worthOfItems_156 rfl 4 rfl ?_
              refine G_iald i3 (w3_k6 hw3_r0) rfl (hb_2 c0 c1 c2 c3 c4 c5) d_X3_worthOfItems_157 ?_
              refine G_sub (L' := [(0, .ref r0), (1, .ref r1), (2, .int (l2 + 1)), (3, .int (nI i3))]) [2, 3, 0, 4] rfl ?_
              refine G_callV (M' := mX3_truthOf) (R' := (Rm (d + 1))) (S := [.int (l2 + 1), .ref (r0 + 7)]) [.ref r1, .int (iv μ (r0 + 3) i3), .int (iv μ (r0 + 4) i3), .int (iv μ (r0 + 5) i3)] 3 (w3_kd hw3_r0) cok3 rfl ok_X3_truthOf ml_X3_77 pn_X3_truthOf (ru_Rm (by decide)) (Nat.le_of_ble_eq_true rfl) d_X3_worthOfItems_158 ?_
              exact (hc_truthOf c0 c1 c2 c3 c4 c5)
            ·
              refine G_iinc (L' := [(2, .int (l2 + (-1))), (4, .int (iv μ (r0 + 3) i3)), (0, .ref r0), (1, .ref r1), (3, .int (nI i3))]) d_X3_worthOfItems_105 3 rfl (decI _) (by decide) rfl ?_
              refine G_aload_n d_X3_worthOfItems_108 rfl 2 rfl ?_
              refine G_getR (r := r0 + 7) 3 10 (w3_kd hw3_r0) (w3_f10 hw3_r0) cok3 (by decide) rfl fl_X3_31 d_X3_worthOfItems_109 ?_
              refine G_iload_n d_X3_worthOfItems_112 rfl 0 rfl ?_
              refine G_aload_n d_X3_worthOfItems_113 rfl 2 rfl ?_
              refine G_getR (r := r0 + 7) 3 10 (w3_kd hw3_r0) (w3_f10 hw3_r0) cok3 (by decide) rfl fl_X3_31 d_X3_worthOfItems_114 ?_
              refine G_iload_n d_X3_worthOfItems_117 rfl 0 rfl ?_
              refine G_iald j0 (w3_k10 hw3_r0) (hi_j0 c0 c1 c2 c3 c4 c5) (hb_3 c0 c1 c2 c3 c4 c5) d_X3_worthOfItems_118 ?_
              refine G_aload_n d_X3_worthOfItems_119 rfl 2 rfl ?_
              refine G_getR (r := r0 + 7) 3 10 (w3_kd hw3_r0) (w3_f10 hw3_r0) cok3 (by decide) rfl fl_X3_31 d_X3_worthOfItems_120 ?_
              refine G_iload_n d_X3_worthOfItems_123 rfl 0 rfl ?_
              refine G_iconst d_X3_worthOfItems_124 ic_1 ?_
              refine G_iadd d_X3_worthOfItems_125 ?_
              refine G_iald j1 (w3_k10 hw3_r0) (hi_j1 c0 c1 c2 c3 c4 c5) (hb_4 c0 c1 c2 c3 c4 c5) d_X3_worthOfItems_126 ?_
              refine G_max ml_X3_55 rb_Rm (Nat.le_of_ble_eq_true rfl) d_X3_worthOfItems_127 ?_
              refine G_iast j0 (w3_k10 hw3_r0) (hi_j0 c0 c1 c2 c3 c4 c5) (hb_3 c0 c1 c2 c3 c4 c5) d_X3_worthOfItems_130 ?_
              refine G_goto (tgt := 162) d_X3_worthOfItems_131 rfl ?_
              refine G_sub (L' := [(0, .ref r0), (1, .ref r1), (2, .int (l2 + (-1))), (3, .int (nI i3))]) [2, 3, 0, 4] rfl ?_
              exact (h_3 c0 c1 c2 c3 c4 c5)
          ·
            refine G_iinc (L' := [(2, .int (l2 + (-1))), (4, .int (iv μ (r0 + 3) i3)), (0, .ref r0), (1, .ref r1), (3, .int (nI i3))]) d_X3_worthOfItems_69 3 rfl (decI _) (by decide) rfl ?_
            refine G_aload_n d_X3_worthOfItems_72 rfl 2 rfl ?_
            refine G_getR (r := r0 + 7) 3 10 (w3_kd hw3_r0) (w3_f10 hw3_r0) cok3 (by decide) rfl fl_X3_31 d_X3_worthOfItems_73 ?_
            refine G_iload_n d_X3_worthOfItems_76 rfl 0 rfl ?_
            refine G_aload_n d_X3_worthOfItems_77 rfl 2 rfl ?_
            refine G_getR (r := r0 + 7) 3 10 (w3_kd hw3_r0) (w3_f10 hw3_r0) cok3 (by decide) rfl fl_X3_31 d_X3_worthOfItems_78 ?_
            refine G_iload_n d_X3_worthOfItems_81 rfl 0 rfl ?_
            refine G_iald j0 (w3_k10 hw3_r0) (hi_j0_2 c0 c1 c2 c3 c4) (hb_5 c0 c1 c2 c3 c4) d_X3_worthOfItems_82 ?_
            refine G_aload_n d_X3_worthOfItems_83 rfl 2 rfl ?_
            refine G_getR (r := r0 + 7) 3 10 (w3_kd hw3_r0) (w3_f10 hw3_r0) cok3 (by decide) rfl fl_X3_31 d_X3_worthOfItems_84 ?_
            refine G_iload_n d_X3_worthOfItems_87 rfl 0 rfl ?_
            refine G_iconst d_X3_worthOfItems_88 ic_1 ?_
            refine G_iadd d_X3_worthOfItems_89 ?_
            refine G_iald j1 (w3_k10 hw3_r0) (hi_j1_2 c0 c1 c2 c3 c4) (hb_6 c0 c1 c2 c3 c4) d_X3_worthOfItems_90 ?_
            refine G_min ml_X3_74 rb_Rm (Nat.le_of_ble_eq_true rfl) d_X3_worthOfItems_91 ?_
            refine G_iast j0 (w3_k10 hw3_r0) (hi_j0_2 c0 c1 c2 c3 c4) (hb_5 c0 c1 c2 c3 c4) d_X3_worthOfItems_94 ?_
            refine G_goto (tgt := 162) d_X3_worthOfItems_95 rfl ?_
            refine G_sub (L' := [(0, .ref r0), (1, .ref r1), (2, .int (l2 + (-1))), (3, .int (nI i3))]) [2, 3, 0, 4] rfl ?_
            exact (h_4 c0 c1 c2 c3 c4)
        ·
          refine G_aload_n d_X3_worthOfItems_45 rfl 1 rfl ?_
          refine G_getR (r := r0 + 7) 3 10 (w3_kd hw3_r0) (w3_f10 hw3_r0) cok3 (by decide) rfl fl_X3_31 d_X3_worthOfItems_46 ?_
          refine G_iload_n d_X3_worthOfItems_49 rfl 3 rfl ?_
          refine G_iconst d_X3_worthOfItems_50 ic_2 ?_
          refine G_aload_n d_X3_worthOfItems_51 rfl 1 rfl ?_
          refine G_getR (r := r0 + 7) 3 10 (w3_kd hw3_r0) (w3_f10 hw3_r0) cok3 (by decide) rfl fl_X3_31 d_X3_worthOfItems_52 ?_
          refine G_iload_n d_X3_worthOfItems_55 rfl 3 rfl ?_
          refine G_iald j2 (w3_k10 hw3_r0) (hi_j2 c0 c1 c2 c3) (hb_7 c0 c1 c2 c3) d_X3_worthOfItems_56 ?_
          refine G_isub d_X3_worthOfItems_57 ?_
          refine G_iast j2 (w3_k10 hw3_r0) (hi_j2 c0 c1 c2 c3) (hb_7 c0 c1 c2 c3) d_X3_worthOfItems_58 ?_
          refine G_goto (tgt := 162) d_X3_worthOfItems_59 rfl ?_
          refine G_sub (L' := [(0, .ref r0), (1, .ref r1), (2, .int l2), (3, .int (nI i3))]) [1, 2, 3, 4] rfl ?_
          exact (h_5 c0 c1 c2 c3)
      ·
        refine G_iconst d_X3_worthOfItems_37 ic_0 ?_
        exact G_iret rfl rfl rfl d_X3_worthOfItems_38 (hK c0 c1 c2)
theorem b_X3_worthOfItems_161 {X : cX} {d : Nat} {μ : mM} {K : Option Value → mM → Prop} {r0 : Nat} {r1 : Nat} {l2 : Int32} {l3 : Int32} {q0 : Nat} {v1 : Int32} {v2 : Int32} {n0 : Nat} {j0 : Nat} (hk_q0 : kd μ q0 = (1, n0)) (hi_j0 : v1 = nI j0) (hb : j0 < n0) (h : G X (Rm (d + 2)) mX3_worthOfItems 162 [(0, .ref r0), (1, .ref r1), (2, .int l2), (3, .int l3)] [] (wi μ q0 j0 v2) 0 0 K) : G X (Rm (d + 2)) mX3_worthOfItems 161 [(0, .ref r0), (1, .ref r1), (2, .int l2), (3, .int l3)] [.int v2, .int v1, .ref q0] μ 0 0 K := by
  refine G_iast j0 hk_q0 hi_j0 hb d_X3_worthOfItems_161 ?_
  exact h
theorem b_X3_worthOfItems_162 {X : cX} {d : Nat} {μ : mM} {K : Option Value → mM → Prop} {r0 : Nat} {r1 : Nat} {l2 : Int32} {i3 : Nat} (h : G X (Rm (d + 2)) mX3_worthOfItems 4 [(0, .ref r0), (1, .ref r1), (2, .int l2), (3, .int (nI (i3 + 1)))] [] μ 0 0 K) : G X (Rm (d + 2)) mX3_worthOfItems 162 [(0, .ref r0), (1, .ref r1), (2, .int l2), (3, .int (nI i3))] [] μ 0 0 K := by
  refine G_iinc (L' := [(3, .int (nI (i3 + 1))), (0, .ref r0), (1, .ref r1), (2, .int l2)]) d_X3_worthOfItems_162 3 rfl (inc1 i3) (by decide) rfl ?_
  refine G_goto (tgt := 4) d_X3_worthOfItems_165 rfl ?_
  refine G_sub (L' := [(0, .ref r0), (1, .ref r1), (2, .int l2), (3, .int (nI (i3 + 1)))]) [1, 2, 3, 0] rfl ?_
  exact h
theorem b_X3_worthOfItems_168 {X : cX} {d : Nat} {μ : mM} {K : Option Value → mM → Prop} {r0 : Nat} (hw3_r0 : WF3 μ r0) (hK : K (some (.int (iv μ (r0 + 7) 0))) μ) : G X (Rm (d + 2)) mX3_worthOfItems 168 [(0, .ref r0)] [] μ 0 0 K := by
  refine G_aload_n d_X3_worthOfItems_168 rfl 0 rfl ?_
  refine G_getR (r := r0 + 7) 3 10 (w3_kd hw3_r0) (w3_f10 hw3_r0) cok3 (by decide) rfl fl_X3_31 d_X3_worthOfItems_169 ?_
  refine G_iconst d_X3_worthOfItems_172 ic_0 ?_
  refine G_iald 0 (w3_k10 hw3_r0) rfl (by decide) d_X3_worthOfItems_173 ?_
  exact G_iret rfl rfl rfl d_X3_worthOfItems_174 hK
theorem d_X3_worthFrom_0 : decode cX3_worthFrom 0 = .ok (.iload_n 2, 1) := by decide +kernel
theorem d_X3_worthFrom_1 : decode cX3_worthFrom 1 = .ok (.aload_n 0, 1) := by decide +kernel
theorem d_X3_worthFrom_2 : decode cX3_worthFrom 2 = .ok (.getfield 34, 3) := by decide +kernel
theorem d_X3_worthFrom_5 : decode cX3_worthFrom 5 = .ok (.if_icmp .ge 8, 3) := by decide +kernel
theorem d_X3_worthFrom_8 : decode cX3_worthFrom 8 = .ok (.iload_n 2, 1) := by decide +kernel
theorem d_X3_worthFrom_9 : decode cX3_worthFrom 9 = .ok (.iconst 3, 1) := by decide +kernel
theorem d_X3_worthFrom_10 : decode cX3_worthFrom 10 = .ok (.if_icmp .lt 9, 3) := by decide +kernel
theorem d_X3_worthFrom_13 : decode cX3_worthFrom 13 = .ok (.aload_n 0, 1) := by decide +kernel
theorem d_X3_worthFrom_14 : decode cX3_worthFrom 14 = .ok (.aload_n 1, 1) := by decide +kernel
theorem d_X3_worthFrom_15 : decode cX3_worthFrom 15 = .ok (.invokevirtual 65, 3) := by decide +kernel
theorem d_X3_worthFrom_18 : decode cX3_worthFrom 18 = .ok (.ireturn, 1) := by decide +kernel
theorem d_X3_worthFrom_19 : decode cX3_worthFrom 19 = .ok (.aload_n 0, 1) := by decide +kernel
theorem d_X3_worthFrom_20 : decode cX3_worthFrom 20 = .ok (.getfield 15, 3) := by decide +kernel
theorem d_X3_worthFrom_23 : decode cX3_worthFrom 23 = .ok (.iload_n 2, 1) := by decide +kernel
theorem d_X3_worthFrom_24 : decode cX3_worthFrom 24 = .ok (.baload, 1) := by decide +kernel
theorem d_X3_worthFrom_25 : decode cX3_worthFrom 25 = .ok (.ifCond .eq 7, 3) := by decide +kernel
theorem d_X3_worthFrom_28 : decode cX3_worthFrom 28 = .ok (.iconst 0, 1) := by decide +kernel
theorem d_X3_worthFrom_29 : decode cX3_worthFrom 29 = .ok (.goto 4, 3) := by decide +kernel
theorem d_X3_worthFrom_32 : decode cX3_worthFrom 32 = .ok (.iconst 2, 1) := by decide +kernel
theorem d_X3_worthFrom_33 : decode cX3_worthFrom 33 = .ok (.istore_n 3, 1) := by decide +kernel
theorem d_X3_worthFrom_34 : decode cX3_worthFrom 34 = .ok (.iconst 2, 1) := by decide +kernel
theorem d_X3_worthFrom_35 : decode cX3_worthFrom 35 = .ok (.iload_n 3, 1) := by decide +kernel
theorem d_X3_worthFrom_36 : decode cX3_worthFrom 36 = .ok (.isub, 1) := by decide +kernel
theorem d_X3_worthFrom_37 : decode cX3_worthFrom 37 = .ok (.istore 4, 2) := by decide +kernel
theorem d_X3_worthFrom_39 : decode cX3_worthFrom 39 = .ok (.iconst 0, 1) := by decide +kernel
theorem d_X3_worthFrom_40 : decode cX3_worthFrom 40 = .ok (.istore 5, 2) := by decide +kernel
theorem d_X3_worthFrom_42 : decode cX3_worthFrom 42 = .ok (.iload 5, 2) := by decide +kernel
theorem d_X3_worthFrom_44 : decode cX3_worthFrom 44 = .ok (.aload_n 1, 1) := by decide +kernel
theorem d_X3_worthFrom_45 : decode cX3_worthFrom 45 = .ok (.getfield 69, 3) := by decide +kernel
theorem d_X3_worthFrom_48 : decode cX3_worthFrom 48 = .ok (.if_icmp .ge 61, 3) := by decide +kernel
theorem d_X3_worthFrom_51 : decode cX3_worthFrom 51 = .ok (.iload 4, 2) := by decide +kernel
theorem d_X3_worthFrom_53 : decode cX3_worthFrom 53 = .ok (.iload_n 3, 1) := by decide +kernel
theorem d_X3_worthFrom_54 : decode cX3_worthFrom 54 = .ok (.if_icmp .eq 55, 3) := by decide +kernel
theorem d_X3_worthFrom_57 : decode cX3_worthFrom 57 = .ok (.aload_n 0, 1) := by decide +kernel
theorem d_X3_worthFrom_58 : decode cX3_worthFrom 58 = .ok (.getfield 28, 3) := by decide +kernel
theorem d_X3_worthFrom_61 : decode cX3_worthFrom 61 = .ok (.iload_n 2, 1) := by decide +kernel
theorem d_X3_worthFrom_62 : decode cX3_worthFrom 62 = .ok (.iload 5, 2) := by decide +kernel
theorem d_X3_worthFrom_64 : decode cX3_worthFrom 64 = .ok (.iastore, 1) := by decide +kernel
theorem d_X3_worthFrom_65 : decode cX3_worthFrom 65 = .ok (.aload_n 0, 1) := by decide +kernel
theorem d_X3_worthFrom_66 : decode cX3_worthFrom 66 = .ok (.aload_n 1, 1) := by decide +kernel
theorem d_X3_worthFrom_67 : decode cX3_worthFrom 67 = .ok (.iload_n 2, 1) := by decide +kernel
theorem d_X3_worthFrom_68 : decode cX3_worthFrom 68 = .ok (.iconst 1, 1) := by decide +kernel
theorem d_X3_worthFrom_69 : decode cX3_worthFrom 69 = .ok (.iadd, 1) := by decide +kernel
theorem d_X3_worthFrom_70 : decode cX3_worthFrom 70 = .ok (.invokevirtual 61, 3) := by decide +kernel
theorem d_X3_worthFrom_73 : decode cX3_worthFrom 73 = .ok (.istore 6, 2) := by decide +kernel
theorem d_X3_worthFrom_75 : decode cX3_worthFrom 75 = .ok (.aload_n 0, 1) := by decide +kernel
theorem d_X3_worthFrom_76 : decode cX3_worthFrom 76 = .ok (.getfield 15, 3) := by decide +kernel
theorem d_X3_worthFrom_79 : decode cX3_worthFrom 79 = .ok (.iload_n 2, 1) := by decide +kernel
theorem d_X3_worthFrom_80 : decode cX3_worthFrom 80 = .ok (.baload, 1) := by decide +kernel
theorem d_X3_worthFrom_81 : decode cX3_worthFrom 81 = .ok (.ifCond .eq 13, 3) := by decide +kernel
theorem d_X3_worthFrom_84 : decode cX3_worthFrom 84 = .ok (.iload 4, 2) := by decide +kernel
theorem d_X3_worthFrom_86 : decode cX3_worthFrom 86 = .ok (.iload 6, 2) := by decide +kernel
theorem d_X3_worthFrom_88 : decode cX3_worthFrom 88 = .ok (.invokestatic 74, 3) := by decide +kernel
theorem d_X3_worthFrom_91 : decode cX3_worthFrom 91 = .ok (.goto 10, 3) := by decide +kernel
theorem d_X3_worthFrom_94 : decode cX3_worthFrom 94 = .ok (.iload 4, 2) := by decide +kernel
theorem d_X3_worthFrom_96 : decode cX3_worthFrom 96 = .ok (.iload 6, 2) := by decide +kernel
theorem d_X3_worthFrom_98 : decode cX3_worthFrom 98 = .ok (.invokestatic 55, 3) := by decide +kernel
theorem d_X3_worthFrom_101 : decode cX3_worthFrom 101 = .ok (.istore 4, 2) := by decide +kernel
theorem d_X3_worthFrom_103 : decode cX3_worthFrom 103 = .ok (.iinc 5 1, 3) := by decide +kernel
theorem d_X3_worthFrom_106 : decode cX3_worthFrom 106 = .ok (.goto (-64), 3) := by decide +kernel
theorem d_X3_worthFrom_109 : decode cX3_worthFrom 109 = .ok (.iload 4, 2) := by decide +kernel
theorem d_X3_worthFrom_111 : decode cX3_worthFrom 111 = .ok (.ireturn, 1) := by decide +kernel
theorem b_X3_worthFrom_0 {X : cX} {d : Nat} {μ : mM} {K : Option Value → mM → Prop} {r0 : Nat} {r1 : Nat} {i2 : Nat} (hw3_r0 : WF3 μ r0) (h : (iv μ r0 0) ≤ (nI i2) → G X (Rm (d + 3)) mX3_worthFrom 13 [(0, .ref r0), (1, .ref r1)] [] μ 0 0 K) (hb : ¬ (iv μ r0 0) ≤ (nI i2) → (nI i2) < (3 : Int32) → i2 < 3) (h_2 : ¬ (iv μ r0 0) ≤ (nI i2) → (nI i2) < (3 : Int32) → (iv μ (r0 + 2) i2) = 0 → G X (Rm (d + 3)) mX3_worthFrom 33 [(0, .ref r0), (1, .ref r1), (2, .int (nI i2))] [.int 2] μ 0 0 K) (h_3 : ¬ (iv μ r0 0) ≤ (nI i2) → (nI i2) < (3 : Int32) → ¬ (iv μ (r0 + 2) i2) = 0 → G X (Rm (d + 3)) mX3_worthFrom 33 [(0, .ref r0), (1, .ref r1), (2, .int (nI i2))] [.int 0] μ 0 0 K) (h_4 : ¬ (iv μ r0 0) ≤ (nI i2) → ¬ (nI i2) < (3 : Int32) → G X (Rm (d + 3)) mX3_worthFrom 13 [(0, .ref r0), (1, .ref r1)] [] μ 0 0 K) : G X (Rm (d + 3)) mX3_worthFrom 0 [(0, .ref r0), (1, .ref r1), (2, .int (nI i2))] [] μ 0 0 K := by
  refine G_iload_n d_X3_worthFrom_0 rfl 2 rfl ?_
  refine G_aload_n d_X3_worthFrom_1 rfl 0 rfl ?_
  refine G_getI 3 0 (w3_kd hw3_r0) cok3 (by decide) rfl fl_X3_34 d_X3_worthFrom_2 ?_
  refine G_icmp_ge (tgt := 13) d_X3_worthFrom_5 rfl (fun c0 => ?_) (fun c0 => ?_)
  ·
    refine G_sub (L' := [(0, .ref r0), (1, .ref r1)]) [0, 1] rfl ?_
    exact (h c0)
  ·
    refine G_iload_n d_X3_worthFrom_8 rfl 2 rfl ?_
    refine G_iconst d_X3_worthFrom_9 ic_3 ?_
    refine G_icmp_lt (tgt := 19) d_X3_worthFrom_10 rfl (fun c1 => ?_) (fun c1 => ?_)
    ·
      refine G_aload_n d_X3_worthFrom_19 rfl 0 rfl ?_
      refine G_getR (r := r0 + 2) 3 2 (w3_kd hw3_r0) (w3_f2 hw3_r0) cok3 (by decide) rfl fl_X3_15 d_X3_worthFrom_20 ?_
      refine G_iload_n d_X3_worthFrom_23 rfl 2 rfl ?_
      refine G_zald i2 (w3_k2 hw3_r0) rfl (hb c0 c1) d_X3_worthFrom_24 ?_
      refine G_if_eq (tgt := 32) d_X3_worthFrom_25 rfl (fun c2 => ?_) (fun c2 => ?_)
      ·
        refine G_iconst d_X3_worthFrom_32 ic_2 ?_
        exact (h_2 c0 c1 c2)
      ·
        refine G_iconst d_X3_worthFrom_28 ic_0 ?_
        refine G_goto (tgt := 33) d_X3_worthFrom_29 rfl ?_
        exact (h_3 c0 c1 c2)
    ·
      refine G_sub (L' := [(0, .ref r0), (1, .ref r1)]) [0, 1] rfl ?_
      exact (h_4 c0 c1)
theorem b_X3_worthFrom_13 {X : cX} {d : Nat} {μ : mM} {K : Option Value → mM → Prop} {r0 : Nat} {r1 : Nat} (hw3_r0 : WF3 μ r0) (hc_worthOfItems : Ct X (Rm (d + 2)) mX3_worthOfItems [.ref r0, .ref r1] μ (fun r μ2 => G X (Rm (d + 3)) mX3_worthFrom 18 [] (r.toList ++ []) μ2 0 0 K)) : G X (Rm (d + 3)) mX3_worthFrom 13 [(0, .ref r0), (1, .ref r1)] [] μ 0 0 K := by
  refine G_aload_n d_X3_worthFrom_13 rfl 0 rfl ?_
  refine G_aload_n d_X3_worthFrom_14 rfl 1 rfl ?_
  refine G_sub (L' := []) [] rfl ?_
  refine G_callV (M' := mX3_worthOfItems) (R' := (Rm (d + 2))) (S := []) [.ref r1] 3 (w3_kd hw3_r0) cok3 rfl ok_X3_worthOfItems ml_X3_65 pn_X3_worthOfItems (ru_Rm (by decide)) (Nat.le_of_ble_eq_true rfl) d_X3_worthFrom_15 ?_
  exact hc_worthOfItems
theorem b_X3_worthFrom_18 {X : cX} {d : Nat} {μ : mM} {K : Option Value → mM → Prop} {v0 : Int32} (hK : K (some (.int v0)) μ) : G X (Rm (d + 3)) mX3_worthFrom 18 [] [.int v0] μ 0 0 K := by
  exact G_iret rfl rfl rfl d_X3_worthFrom_18 hK
theorem b_X3_worthFrom_33 {X : cX} {d : Nat} {μ : mM} {K : Option Value → mM → Prop} {r0 : Nat} {r1 : Nat} {l2 : Int32} {v0 : Int32} (h : G X (Rm (d + 3)) mX3_worthFrom 42 [(0, .ref r0), (1, .ref r1), (2, .int l2), (3, .int v0), (4, .int ((2 : Int32) - v0)), (5, .int (nI 0))] [] μ 0 0 K) : G X (Rm (d + 3)) mX3_worthFrom 33 [(0, .ref r0), (1, .ref r1), (2, .int l2)] [.int v0] μ 0 0 K := by
  refine G_istore_n (L' := [(3, .int v0), (0, .ref r0), (1, .ref r1), (2, .int l2)]) d_X3_worthFrom_33 rfl (by decide) rfl ?_
  refine G_iconst d_X3_worthFrom_34 ic_2 ?_
  refine G_iload_n d_X3_worthFrom_35 rfl 0 rfl ?_
  refine G_isub d_X3_worthFrom_36 ?_
  refine G_istore (L' := [(4, .int ((2 : Int32) - v0)), (3, .int v0), (0, .ref r0), (1, .ref r1), (2, .int l2)]) d_X3_worthFrom_37 (by decide) rfl ?_
  refine G_iconst d_X3_worthFrom_39 ic_0 ?_
  refine G_istore (L' := [(5, .int (nI 0)), (4, .int ((2 : Int32) - v0)), (3, .int v0), (0, .ref r0), (1, .ref r1), (2, .int l2)]) d_X3_worthFrom_40 (by decide) rfl ?_
  refine G_sub (L' := [(0, .ref r0), (1, .ref r1), (2, .int l2), (3, .int v0), (4, .int ((2 : Int32) - v0)), (5, .int (nI 0))]) [3, 4, 5, 2, 1, 0] rfl ?_
  exact h
theorem b_X3_worthFrom_42 {X : cX} {d : Nat} {μ : mM} {K : Option Value → mM → Prop} {r0 : Nat} {r1 : Nat} {i2 : Nat} {l3 : Int32} {l4 : Int32} {l5 : Int32} (hw5_r1 : WF5 μ r1) (hK : (iv μ r1 0) ≤ l5 → K (some (.int l4)) μ) (hK_2 : ¬ (iv μ r1 0) ≤ l5 → l4 = l3 → K (some (.int l4)) μ) (hw3_r0 : WF3 μ r0) (hb : ¬ (iv μ r1 0) ≤ l5 → ¬ l4 = l3 → i2 < 3) (hc_worthFrom : ¬ (iv μ r1 0) ≤ l5 → ¬ l4 = l3 → Ct X (Rm (d + 2)) mX3_worthFrom [.ref r0, .ref r1, .int ((nI i2) + 1)] (wi μ (r0 + 6) i2 l5) (fun r μ2 => G X (Rm (d + 3)) mX3_worthFrom 73 [(0, .ref r0), (1, .ref r1), (2, .int (nI i2)), (3, .int l3), (4, .int l4), (5, .int l5)] (r.toList ++ []) μ2 0 0 K)) : G X (Rm (d + 3)) mX3_worthFrom 42 [(0, .ref r0), (1, .ref r1), (2, .int (nI i2)), (3, .int l3), (4, .int l4), (5, .int l5)] [] μ 0 0 K := by
  refine G_iload d_X3_worthFrom_42 5 rfl ?_
  refine G_aload_n d_X3_worthFrom_44 rfl 1 rfl ?_
  refine G_getI 5 0 (w5_kd hw5_r1) cok5 (by decide) rfl fl_X3_69 d_X3_worthFrom_45 ?_
  refine G_icmp_ge (tgt := 109) d_X3_worthFrom_48 rfl (fun c0 => ?_) (fun c0 => ?_)
  ·
    refine G_iload d_X3_worthFrom_109 4 rfl ?_
    exact G_iret rfl rfl rfl d_X3_worthFrom_111 (hK c0)
  ·
    refine G_iload d_X3_worthFrom_51 4 rfl ?_
    refine G_iload_n d_X3_worthFrom_53 rfl 3 rfl ?_
    refine G_icmp_eq (tgt := 109) d_X3_worthFrom_54 rfl (fun c1 => ?_) (fun c1 => ?_)
    ·
      refine G_iload d_X3_worthFrom_109 4 rfl ?_
      exact G_iret rfl rfl rfl d_X3_worthFrom_111 (hK_2 c0 c1)
    ·
      refine G_aload_n d_X3_worthFrom_57 rfl 0 rfl ?_
      refine G_getR (r := r0 + 6) 3 9 (w3_kd hw3_r0) (w3_f9 hw3_r0) cok3 (by decide) rfl fl_X3_28 d_X3_worthFrom_58 ?_
      refine G_iload_n d_X3_worthFrom_61 rfl 2 rfl ?_
      refine G_iload d_X3_worthFrom_62 5 rfl ?_
      refine G_iast i2 (w3_k9 hw3_r0) rfl (hb c0 c1) d_X3_worthFrom_64 ?_
      refine G_aload_n d_X3_worthFrom_65 rfl 0 rfl ?_
      refine G_aload_n d_X3_worthFrom_66 rfl 1 rfl ?_
      refine G_iload_n d_X3_worthFrom_67 rfl 2 rfl ?_
      refine G_iconst d_X3_worthFrom_68 ic_1 ?_
      refine G_iadd d_X3_worthFrom_69 ?_
      refine G_callV (M' := mX3_worthFrom) (R' := (Rm (d + 2))) (S := []) [.ref r1, .int ((nI i2) + 1)] 3 (w3_kd hw3_r0) cok3 rfl ok_X3_worthFrom ml_X3_61 pn_X3_worthFrom (ru_Rm (by decide)) (Nat.le_of_ble_eq_true rfl) d_X3_worthFrom_70 ?_
      exact (hc_worthFrom c0 c1)
theorem b_X3_worthFrom_73 {X : cX} {d : Nat} {μ : mM} {K : Option Value → mM → Prop} {r0 : Nat} {r1 : Nat} {i2 : Nat} {l3 : Int32} {l4 : Int32} {l5 : Int32} {v0 : Int32} (hw3_r0 : WF3 μ r0) (hb : i2 < 3) (h : (iv μ (r0 + 2) i2) = 0 → G X (Rm (d + 3)) mX3_worthFrom 101 [(0, .ref r0), (1, .ref r1), (2, .int (nI i2)), (3, .int l3), (5, .int l5)] [.int (if l4 < v0 then v0 else l4)] μ 0 0 K) (h_2 : ¬ (iv μ (r0 + 2) i2) = 0 → G X (Rm (d + 3)) mX3_worthFrom 101 [(0, .ref r0), (1, .ref r1), (2, .int (nI i2)), (3, .int l3), (5, .int l5)] [.int (if v0 < l4 then v0 else l4)] μ 0 0 K) : G X (Rm (d + 3)) mX3_worthFrom 73 [(0, .ref r0), (1, .ref r1), (2, .int (nI i2)), (3, .int l3), (4, .int l4), (5, .int l5)] [.int v0] μ 0 0 K := by
  refine G_istore (L' := [(6, .int v0), (0, .ref r0), (1, .ref r1), (2, .int (nI i2)), (3, .int l3), (4, .int l4), (5, .int l5)]) d_X3_worthFrom_73 (by decide) rfl ?_
  refine G_aload_n d_X3_worthFrom_75 rfl 1 rfl ?_
  refine G_getR (r := r0 + 2) 3 2 (w3_kd hw3_r0) (w3_f2 hw3_r0) cok3 (by decide) rfl fl_X3_15 d_X3_worthFrom_76 ?_
  refine G_iload_n d_X3_worthFrom_79 rfl 3 rfl ?_
  refine G_zald i2 (w3_k2 hw3_r0) rfl hb d_X3_worthFrom_80 ?_
  refine G_if_eq (tgt := 94) d_X3_worthFrom_81 rfl (fun c0 => ?_) (fun c0 => ?_)
  ·
    refine G_iload d_X3_worthFrom_94 5 rfl ?_
    refine G_iload d_X3_worthFrom_96 0 rfl ?_
    refine G_max ml_X3_55 rb_Rm (Nat.le_of_ble_eq_true rfl) d_X3_worthFrom_98 ?_
    refine G_sub (L' := [(0, .ref r0), (1, .ref r1), (2, .int (nI i2)), (3, .int l3), (5, .int l5)]) [1, 2, 3, 4, 6] rfl ?_
    exact (h c0)
  ·
    refine G_iload d_X3_worthFrom_84 5 rfl ?_
    refine G_iload d_X3_worthFrom_86 0 rfl ?_
    refine G_min ml_X3_74 rb_Rm (Nat.le_of_ble_eq_true rfl) d_X3_worthFrom_88 ?_
    refine G_goto (tgt := 101) d_X3_worthFrom_91 rfl ?_
    refine G_sub (L' := [(0, .ref r0), (1, .ref r1), (2, .int (nI i2)), (3, .int l3), (5, .int l5)]) [1, 2, 3, 4, 6] rfl ?_
    exact (h_2 c0)
theorem b_X3_worthFrom_101 {X : cX} {d : Nat} {μ : mM} {K : Option Value → mM → Prop} {r0 : Nat} {r1 : Nat} {l2 : Int32} {l3 : Int32} {i5 : Nat} {v0 : Int32} (h : G X (Rm (d + 3)) mX3_worthFrom 42 [(0, .ref r0), (1, .ref r1), (2, .int l2), (3, .int l3), (4, .int v0), (5, .int (nI (i5 + 1)))] [] μ 0 0 K) : G X (Rm (d + 3)) mX3_worthFrom 101 [(0, .ref r0), (1, .ref r1), (2, .int l2), (3, .int l3), (5, .int (nI i5))] [.int v0] μ 0 0 K := by
  refine G_istore (L' := [(4, .int v0), (0, .ref r0), (1, .ref r1), (2, .int l2), (3, .int l3), (5, .int (nI i5))]) d_X3_worthFrom_101 (by decide) rfl ?_
  refine G_iinc (L' := [(5, .int (nI (i5 + 1))), (4, .int v0), (0, .ref r0), (1, .ref r1), (2, .int l2), (3, .int l3)]) d_X3_worthFrom_103 5 rfl (inc1 i5) (by decide) rfl ?_
  refine G_goto (tgt := 42) d_X3_worthFrom_106 rfl ?_
  refine G_sub (L' := [(0, .ref r0), (1, .ref r1), (2, .int l2), (3, .int l3), (4, .int v0), (5, .int (nI (i5 + 1)))]) [2, 3, 4, 5, 1, 0] rfl ?_
  exact h
theorem d_X3_worth_0 : decode cX3_worth 0 = .ok (.aload_n 0, 1) := by decide +kernel
theorem d_X3_worth_1 : decode cX3_worth 1 = .ok (.aload_n 1, 1) := by decide +kernel
theorem d_X3_worth_2 : decode cX3_worth 2 = .ok (.iconst 0, 1) := by decide +kernel
theorem d_X3_worth_3 : decode cX3_worth 3 = .ok (.invokevirtual 61, 3) := by decide +kernel
theorem d_X3_worth_6 : decode cX3_worth 6 = .ok (.ireturn, 1) := by decide +kernel
theorem b_X3_worth_0 {X : cX} {d : Nat} {μ : mM} {K : Option Value → mM → Prop} {r0 : Nat} {r1 : Nat} (hw3_r0 : WF3 μ r0) (hc_worthFrom : Ct X (Rm (d + 3)) mX3_worthFrom [.ref r0, .ref r1, .int 0] μ (fun r μ2 => G X (Rm (d + 4)) mX3_worth 6 [] (r.toList ++ []) μ2 0 0 K)) : G X (Rm (d + 4)) mX3_worth 0 [(0, .ref r0), (1, .ref r1)] [] μ 0 0 K := by
  refine G_aload_n d_X3_worth_0 rfl 0 rfl ?_
  refine G_aload_n d_X3_worth_1 rfl 1 rfl ?_
  refine G_iconst d_X3_worth_2 ic_0 ?_
  refine G_sub (L' := []) [] rfl ?_
  refine G_callV (M' := mX3_worthFrom) (R' := (Rm (d + 3))) (S := []) [.ref r1, .int 0] 3 (w3_kd hw3_r0) cok3 rfl ok_X3_worthFrom ml_X3_61 pn_X3_worthFrom (ru_Rm (by decide)) (Nat.le_of_ble_eq_true rfl) d_X3_worth_3 ?_
  exact hc_worthFrom
theorem b_X3_worth_6 {X : cX} {d : Nat} {μ : mM} {K : Option Value → mM → Prop} {v0 : Int32} (hK : K (some (.int v0)) μ) : G X (Rm (d + 4)) mX3_worth 6 [] [.int v0] μ 0 0 K := by
  exact G_iret rfl rfl rfl d_X3_worth_6 hK
theorem d_X10_clear_0 : decode cX10_clear 0 = .ok (.aload_n 0, 1) := by decide +kernel
theorem d_X10_clear_1 : decode cX10_clear 1 = .ok (.getfield 12, 3) := by decide +kernel
theorem d_X10_clear_4 : decode cX10_clear 4 = .ok (.invokevirtual 25, 3) := by decide +kernel
theorem d_X10_clear_7 : decode cX10_clear 7 = .ok (.aload_n 0, 1) := by decide +kernel
theorem d_X10_clear_8 : decode cX10_clear 8 = .ok (.iconst 0, 1) := by decide +kernel
theorem d_X10_clear_9 : decode cX10_clear 9 = .ok (.putfield 28, 3) := by decide +kernel
theorem d_X10_clear_12 : decode cX10_clear 12 = .ok (.return_, 1) := by decide +kernel
theorem b_X10_clear_0 {X : cX} {d : Nat} {μ : mM} {K : Option Value → mM → Prop} {r0 : Nat} (hw10_r0 : WF10 μ r0) (hw5_r01 : WF5 μ (r0 + 1)) (hc_clear : Ct X (Rm (d + 1)) mX5_clear [.ref (r0 + 1)] μ (fun r μ2 => G X (Rm (d + 2)) mX10_clear 7 [(0, .ref r0)] (r.toList ++ []) μ2 0 0 K)) : G X (Rm (d + 2)) mX10_clear 0 [(0, .ref r0)] [] μ 0 0 K := by
  refine G_aload_n d_X10_clear_0 rfl 0 rfl ?_
  refine G_getR (r := r0 + 1) 10 0 (w10_kd hw10_r0) (w10_f0 hw10_r0) cok10 (by decide) rfl fl_X10_12 d_X10_clear_1 ?_
  refine G_callV (M' := mX5_clear) (R' := (Rm (d + 1))) (S := []) [] 5 (w5_kd hw5_r01) cok5 rfl ok_X5_clear ml_X10_25 pn_X5_clear (ru_Rm (by decide)) (Nat.le_of_ble_eq_true rfl) d_X10_clear_4 ?_
  exact hc_clear
theorem b_X10_clear_7 {X : cX} {d : Nat} {μ : mM} {K : Option Value → mM → Prop} {r0 : Nat} (hw10_r0 : WF10 μ r0) (hK : K none (wi μ r0 2 0)) : G X (Rm (d + 2)) mX10_clear 7 [(0, .ref r0)] [] μ 0 0 K := by
  refine G_aload_n d_X10_clear_7 rfl 0 rfl ?_
  refine G_iconst d_X10_clear_8 ic_0 ?_
  refine G_putI 10 2 (w10_kd hw10_r0) rfl rfl cok10 (by decide) rfl (Or.inl rfl) fl_X10_28 d_X10_clear_9 ?_
  exact G_vret rfl rfl rfl d_X10_clear_12 hK
theorem d_X9_advance_0 : decode cX9_advance 0 = .ok (.aload_n 0, 1) := by decide +kernel
theorem d_X9_advance_1 : decode cX9_advance 1 = .ok (.aload_n 0, 1) := by decide +kernel
theorem d_X9_advance_2 : decode cX9_advance 2 = .ok (.getfield 19, 3) := by decide +kernel
theorem d_X9_advance_5 : decode cX9_advance 5 = .ok (.putfield 25, 3) := by decide +kernel
theorem d_X9_advance_8 : decode cX9_advance 8 = .ok (.aload_n 0, 1) := by decide +kernel
theorem d_X9_advance_9 : decode cX9_advance 9 = .ok (.getfield 25, 3) := by decide +kernel
theorem d_X9_advance_12 : decode cX9_advance 12 = .ok (.aload_n 0, 1) := by decide +kernel
theorem d_X9_advance_13 : decode cX9_advance 13 = .ok (.getfield 15, 3) := by decide +kernel
theorem d_X9_advance_16 : decode cX9_advance 16 = .ok (.if_icmp .ge 30, 3) := by decide +kernel
theorem d_X9_advance_19 : decode cX9_advance 19 = .ok (.aload_n 0, 1) := by decide +kernel
theorem d_X9_advance_20 : decode cX9_advance 20 = .ok (.getfield 9, 3) := by decide +kernel
theorem d_X9_advance_23 : decode cX9_advance 23 = .ok (.aload_n 0, 1) := by decide +kernel
theorem d_X9_advance_24 : decode cX9_advance 24 = .ok (.getfield 25, 3) := by decide +kernel
theorem d_X9_advance_27 : decode cX9_advance 27 = .ok (.baload, 1) := by decide +kernel
theorem d_X9_advance_28 : decode cX9_advance 28 = .ok (.bipush 32, 2) := by decide +kernel
theorem d_X9_advance_30 : decode cX9_advance 30 = .ok (.if_icmp .ne 16, 3) := by decide +kernel
theorem d_X9_advance_33 : decode cX9_advance 33 = .ok (.aload_n 0, 1) := by decide +kernel
theorem d_X9_advance_34 : decode cX9_advance 34 = .ok (.dup, 1) := by decide +kernel
theorem d_X9_advance_35 : decode cX9_advance 35 = .ok (.getfield 25, 3) := by decide +kernel
theorem d_X9_advance_38 : decode cX9_advance 38 = .ok (.iconst 1, 1) := by decide +kernel
theorem d_X9_advance_39 : decode cX9_advance 39 = .ok (.iadd, 1) := by decide +kernel
theorem d_X9_advance_40 : decode cX9_advance 40 = .ok (.putfield 25, 3) := by decide +kernel
theorem d_X9_advance_43 : decode cX9_advance 43 = .ok (.goto (-35), 3) := by decide +kernel
theorem d_X9_advance_46 : decode cX9_advance 46 = .ok (.aload_n 0, 1) := by decide +kernel
theorem d_X9_advance_47 : decode cX9_advance 47 = .ok (.aload_n 0, 1) := by decide +kernel
theorem d_X9_advance_48 : decode cX9_advance 48 = .ok (.getfield 25, 3) := by decide +kernel
theorem d_X9_advance_51 : decode cX9_advance 51 = .ok (.putfield 19, 3) := by decide +kernel
theorem d_X9_advance_54 : decode cX9_advance 54 = .ok (.aload_n 0, 1) := by decide +kernel
theorem d_X9_advance_55 : decode cX9_advance 55 = .ok (.getfield 19, 3) := by decide +kernel
theorem d_X9_advance_58 : decode cX9_advance 58 = .ok (.aload_n 0, 1) := by decide +kernel
theorem d_X9_advance_59 : decode cX9_advance 59 = .ok (.getfield 15, 3) := by decide +kernel
theorem d_X9_advance_62 : decode cX9_advance 62 = .ok (.if_icmp .ge 44, 3) := by decide +kernel
theorem d_X9_advance_65 : decode cX9_advance 65 = .ok (.aload_n 0, 1) := by decide +kernel
theorem d_X9_advance_66 : decode cX9_advance 66 = .ok (.getfield 9, 3) := by decide +kernel
theorem d_X9_advance_69 : decode cX9_advance 69 = .ok (.aload_n 0, 1) := by decide +kernel
theorem d_X9_advance_70 : decode cX9_advance 70 = .ok (.getfield 19, 3) := by decide +kernel
theorem d_X9_advance_73 : decode cX9_advance 73 = .ok (.baload, 1) := by decide +kernel
theorem d_X9_advance_74 : decode cX9_advance 74 = .ok (.bipush 97, 2) := by decide +kernel
theorem d_X9_advance_76 : decode cX9_advance 76 = .ok (.if_icmp .lt 30, 3) := by decide +kernel
theorem d_X9_advance_79 : decode cX9_advance 79 = .ok (.aload_n 0, 1) := by decide +kernel
theorem d_X9_advance_80 : decode cX9_advance 80 = .ok (.getfield 9, 3) := by decide +kernel
theorem d_X9_advance_83 : decode cX9_advance 83 = .ok (.aload_n 0, 1) := by decide +kernel
theorem d_X9_advance_84 : decode cX9_advance 84 = .ok (.getfield 19, 3) := by decide +kernel
theorem d_X9_advance_87 : decode cX9_advance 87 = .ok (.baload, 1) := by decide +kernel
theorem d_X9_advance_88 : decode cX9_advance 88 = .ok (.bipush 122, 2) := by decide +kernel
theorem d_X9_advance_90 : decode cX9_advance 90 = .ok (.if_icmp .gt 16, 3) := by decide +kernel
theorem d_X9_advance_93 : decode cX9_advance 93 = .ok (.aload_n 0, 1) := by decide +kernel
theorem d_X9_advance_94 : decode cX9_advance 94 = .ok (.dup, 1) := by decide +kernel
theorem d_X9_advance_95 : decode cX9_advance 95 = .ok (.getfield 19, 3) := by decide +kernel
theorem d_X9_advance_98 : decode cX9_advance 98 = .ok (.iconst 1, 1) := by decide +kernel
theorem d_X9_advance_99 : decode cX9_advance 99 = .ok (.iadd, 1) := by decide +kernel
theorem d_X9_advance_100 : decode cX9_advance 100 = .ok (.putfield 19, 3) := by decide +kernel
theorem d_X9_advance_103 : decode cX9_advance 103 = .ok (.goto (-49), 3) := by decide +kernel
theorem d_X9_advance_106 : decode cX9_advance 106 = .ok (.aload_n 0, 1) := by decide +kernel
theorem d_X9_advance_107 : decode cX9_advance 107 = .ok (.getfield 19, 3) := by decide +kernel
theorem d_X9_advance_110 : decode cX9_advance 110 = .ok (.aload_n 0, 1) := by decide +kernel
theorem d_X9_advance_111 : decode cX9_advance 111 = .ok (.getfield 25, 3) := by decide +kernel
theorem d_X9_advance_114 : decode cX9_advance 114 = .ok (.if_icmp .le 9, 3) := by decide +kernel
theorem d_X9_advance_117 : decode cX9_advance 117 = .ok (.aload_n 0, 1) := by decide +kernel
theorem d_X9_advance_118 : decode cX9_advance 118 = .ok (.iconst 1, 1) := by decide +kernel
theorem d_X9_advance_119 : decode cX9_advance 119 = .ok (.putfield 28, 3) := by decide +kernel
theorem d_X9_advance_122 : decode cX9_advance 122 = .ok (.return_, 1) := by decide +kernel
theorem d_X9_advance_123 : decode cX9_advance 123 = .ok (.aload_n 0, 1) := by decide +kernel
theorem d_X9_advance_124 : decode cX9_advance 124 = .ok (.getfield 19, 3) := by decide +kernel
theorem d_X9_advance_127 : decode cX9_advance 127 = .ok (.aload_n 0, 1) := by decide +kernel
theorem d_X9_advance_128 : decode cX9_advance 128 = .ok (.getfield 15, 3) := by decide +kernel
theorem d_X9_advance_131 : decode cX9_advance 131 = .ok (.if_icmp .ge 44, 3) := by decide +kernel
theorem d_X9_advance_134 : decode cX9_advance 134 = .ok (.aload_n 0, 1) := by decide +kernel
theorem d_X9_advance_135 : decode cX9_advance 135 = .ok (.getfield 9, 3) := by decide +kernel
theorem d_X9_advance_138 : decode cX9_advance 138 = .ok (.aload_n 0, 1) := by decide +kernel
theorem d_X9_advance_139 : decode cX9_advance 139 = .ok (.getfield 19, 3) := by decide +kernel
theorem d_X9_advance_142 : decode cX9_advance 142 = .ok (.baload, 1) := by decide +kernel
theorem d_X9_advance_143 : decode cX9_advance 143 = .ok (.bipush 48, 2) := by decide +kernel
theorem d_X9_advance_145 : decode cX9_advance 145 = .ok (.if_icmp .lt 30, 3) := by decide +kernel
theorem d_X9_advance_148 : decode cX9_advance 148 = .ok (.aload_n 0, 1) := by decide +kernel
theorem d_X9_advance_149 : decode cX9_advance 149 = .ok (.getfield 9, 3) := by decide +kernel
theorem d_X9_advance_152 : decode cX9_advance 152 = .ok (.aload_n 0, 1) := by decide +kernel
theorem d_X9_advance_153 : decode cX9_advance 153 = .ok (.getfield 19, 3) := by decide +kernel
theorem d_X9_advance_156 : decode cX9_advance 156 = .ok (.baload, 1) := by decide +kernel
theorem d_X9_advance_157 : decode cX9_advance 157 = .ok (.bipush 57, 2) := by decide +kernel
theorem d_X9_advance_159 : decode cX9_advance 159 = .ok (.if_icmp .gt 16, 3) := by decide +kernel
theorem d_X9_advance_162 : decode cX9_advance 162 = .ok (.aload_n 0, 1) := by decide +kernel
theorem d_X9_advance_163 : decode cX9_advance 163 = .ok (.dup, 1) := by decide +kernel
theorem d_X9_advance_164 : decode cX9_advance 164 = .ok (.getfield 19, 3) := by decide +kernel
theorem d_X9_advance_167 : decode cX9_advance 167 = .ok (.iconst 1, 1) := by decide +kernel
theorem d_X9_advance_168 : decode cX9_advance 168 = .ok (.iadd, 1) := by decide +kernel
theorem d_X9_advance_169 : decode cX9_advance 169 = .ok (.putfield 19, 3) := by decide +kernel
theorem d_X9_advance_172 : decode cX9_advance 172 = .ok (.goto (-49), 3) := by decide +kernel
theorem d_X9_advance_175 : decode cX9_advance 175 = .ok (.aload_n 0, 1) := by decide +kernel
theorem d_X9_advance_176 : decode cX9_advance 176 = .ok (.getfield 19, 3) := by decide +kernel
theorem d_X9_advance_179 : decode cX9_advance 179 = .ok (.aload_n 0, 1) := by decide +kernel
theorem d_X9_advance_180 : decode cX9_advance 180 = .ok (.getfield 25, 3) := by decide +kernel
theorem d_X9_advance_183 : decode cX9_advance 183 = .ok (.if_icmp .le 26, 3) := by decide +kernel
theorem d_X9_advance_186 : decode cX9_advance 186 = .ok (.aload_n 0, 1) := by decide +kernel
theorem d_X9_advance_187 : decode cX9_advance 187 = .ok (.aload_n 0, 1) := by decide +kernel
theorem d_X9_advance_188 : decode cX9_advance 188 = .ok (.getfield 19, 3) := by decide +kernel
theorem d_X9_advance_191 : decode cX9_advance 191 = .ok (.aload_n 0, 1) := by decide +kernel
theorem d_X9_advance_192 : decode cX9_advance 192 = .ok (.getfield 25, 3) := by decide +kernel
theorem d_X9_advance_195 : decode cX9_advance 195 = .ok (.isub, 1) := by decide +kernel
theorem d_X9_advance_196 : decode cX9_advance 196 = .ok (.iconst 2, 1) := by decide +kernel
theorem d_X9_advance_197 : decode cX9_advance 197 = .ok (.if_icmp .le 7, 3) := by decide +kernel
theorem d_X9_advance_200 : decode cX9_advance 200 = .ok (.iconst 4, 1) := by decide +kernel
theorem d_X9_advance_201 : decode cX9_advance 201 = .ok (.goto 4, 3) := by decide +kernel
theorem d_X9_advance_204 : decode cX9_advance 204 = .ok (.iconst 2, 1) := by decide +kernel
theorem d_X9_advance_205 : decode cX9_advance 205 = .ok (.putfield 28, 3) := by decide +kernel
theorem d_X9_advance_208 : decode cX9_advance 208 = .ok (.return_, 1) := by decide +kernel
theorem d_X9_advance_209 : decode cX9_advance 209 = .ok (.aload_n 0, 1) := by decide +kernel
theorem d_X9_advance_210 : decode cX9_advance 210 = .ok (.getfield 25, 3) := by decide +kernel
theorem d_X9_advance_213 : decode cX9_advance 213 = .ok (.aload_n 0, 1) := by decide +kernel
theorem d_X9_advance_214 : decode cX9_advance 214 = .ok (.getfield 15, 3) := by decide +kernel
theorem d_X9_advance_217 : decode cX9_advance 217 = .ok (.if_icmp .lt 9, 3) := by decide +kernel
theorem d_X9_advance_220 : decode cX9_advance 220 = .ok (.aload_n 0, 1) := by decide +kernel
theorem d_X9_advance_221 : decode cX9_advance 221 = .ok (.iconst 0, 1) := by decide +kernel
theorem d_X9_advance_222 : decode cX9_advance 222 = .ok (.putfield 28, 3) := by decide +kernel
theorem d_X9_advance_225 : decode cX9_advance 225 = .ok (.return_, 1) := by decide +kernel
theorem d_X9_advance_226 : decode cX9_advance 226 = .ok (.aload_n 0, 1) := by decide +kernel
theorem d_X9_advance_227 : decode cX9_advance 227 = .ok (.aload_n 0, 1) := by decide +kernel
theorem d_X9_advance_228 : decode cX9_advance 228 = .ok (.getfield 25, 3) := by decide +kernel
theorem d_X9_advance_231 : decode cX9_advance 231 = .ok (.iconst 1, 1) := by decide +kernel
theorem d_X9_advance_232 : decode cX9_advance 232 = .ok (.iadd, 1) := by decide +kernel
theorem d_X9_advance_233 : decode cX9_advance 233 = .ok (.putfield 19, 3) := by decide +kernel
theorem d_X9_advance_236 : decode cX9_advance 236 = .ok (.aload_n 0, 1) := by decide +kernel
theorem d_X9_advance_237 : decode cX9_advance 237 = .ok (.aload_n 0, 1) := by decide +kernel
theorem d_X9_advance_238 : decode cX9_advance 238 = .ok (.getfield 9, 3) := by decide +kernel
theorem d_X9_advance_241 : decode cX9_advance 241 = .ok (.aload_n 0, 1) := by decide +kernel
theorem d_X9_advance_242 : decode cX9_advance 242 = .ok (.getfield 25, 3) := by decide +kernel
theorem d_X9_advance_245 : decode cX9_advance 245 = .ok (.baload, 1) := by decide +kernel
theorem d_X9_advance_246 : decode cX9_advance 246 = .ok (.bipush 59, 2) := by decide +kernel
theorem d_X9_advance_248 : decode cX9_advance 248 = .ok (.if_icmp .eq 17, 3) := by decide +kernel
theorem d_X9_advance_251 : decode cX9_advance 251 = .ok (.aload_n 0, 1) := by decide +kernel
theorem d_X9_advance_252 : decode cX9_advance 252 = .ok (.getfield 9, 3) := by decide +kernel
theorem d_X9_advance_255 : decode cX9_advance 255 = .ok (.aload_n 0, 1) := by decide +kernel
theorem d_X9_advance_256 : decode cX9_advance 256 = .ok (.getfield 25, 3) := by decide +kernel
theorem d_X9_advance_259 : decode cX9_advance 259 = .ok (.baload, 1) := by decide +kernel
theorem d_X9_advance_260 : decode cX9_advance 260 = .ok (.bipush 58, 2) := by decide +kernel
theorem d_X9_advance_262 : decode cX9_advance 262 = .ok (.if_icmp .ne 7, 3) := by decide +kernel
theorem d_X9_advance_265 : decode cX9_advance 265 = .ok (.iconst 3, 1) := by decide +kernel
theorem d_X9_advance_266 : decode cX9_advance 266 = .ok (.goto 4, 3) := by decide +kernel
theorem d_X9_advance_269 : decode cX9_advance 269 = .ok (.iconst 4, 1) := by decide +kernel
theorem d_X9_advance_270 : decode cX9_advance 270 = .ok (.putfield 28, 3) := by decide +kernel
theorem d_X9_advance_273 : decode cX9_advance 273 = .ok (.return_, 1) := by decide +kernel
theorem b_X9_advance_0 {X : cX} {d : Nat} {μ : mM} {K : Option Value → mM → Prop} {r0 : Nat} (hw9_r0 : WF9 μ r0) (h : G X (Rm d) mX9_advance 8 [(0, .ref r0)] [] (wi μ r0 3 (iv μ r0 4)) 0 0 K) : G X (Rm d) mX9_advance 0 [(0, .ref r0)] [] μ 0 0 K := by
  refine G_aload_n d_X9_advance_0 rfl 0 rfl ?_
  refine G_aload_n d_X9_advance_1 rfl 0 rfl ?_
  refine G_getI 9 4 (w9_kd hw9_r0) cok9 (by decide) rfl fl_X9_19 d_X9_advance_2 ?_
  refine G_putI 9 3 (w9_kd hw9_r0) rfl rfl cok9 (by decide) rfl (Or.inl rfl) fl_X9_25 d_X9_advance_5 ?_
  exact h
theorem b_X9_advance_8 {X : cX} {d : Nat} {μ : mM} {K : Option Value → mM → Prop} {r0 : Nat} {j0 : Nat} (hw9_r0 : WF9 μ r0) (h : (iv μ r0 1) ≤ (iv μ r0 3) → G X (Rm d) mX9_advance 46 [(0, .ref r0)] [] μ 0 0 K) (hi_j0 : ¬ (iv μ r0 1) ≤ (iv μ r0 3) → iv μ r0 3 = nI j0) (hb : ¬ (iv μ r0 1) ≤ (iv μ r0 3) → j0 < 320) (h_2 : ¬ (iv μ r0 1) ≤ (iv μ r0 3) → ¬ (iv μ (r0 + 1) j0) = (32 : Int32) → G X (Rm d) mX9_advance 46 [(0, .ref r0)] [] μ 0 0 K) (h_3 : ¬ (iv μ r0 1) ≤ (iv μ r0 3) → (iv μ (r0 + 1) j0) = (32 : Int32) → G X (Rm d) mX9_advance 8 [(0, .ref r0)] [] (wi μ r0 3 ((iv μ r0 3) + 1)) 0 0 K) : G X (Rm d) mX9_advance 8 [(0, .ref r0)] [] μ 0 0 K := by
  refine G_aload_n d_X9_advance_8 rfl 0 rfl ?_
  refine G_getI 9 3 (w9_kd hw9_r0) cok9 (by decide) rfl fl_X9_25 d_X9_advance_9 ?_
  refine G_aload_n d_X9_advance_12 rfl 0 rfl ?_
  refine G_getI 9 1 (w9_kd hw9_r0) cok9 (by decide) rfl fl_X9_15 d_X9_advance_13 ?_
  refine G_icmp_ge (tgt := 46) d_X9_advance_16 rfl (fun c0 => ?_) (fun c0 => ?_)
  ·
    exact (h c0)
  ·
    refine G_aload_n d_X9_advance_19 rfl 0 rfl ?_
    refine G_getR (r := r0 + 1) 9 0 (w9_kd hw9_r0) (w9_f0 hw9_r0) cok9 (by decide) rfl fl_X9_9 d_X9_advance_20 ?_
    refine G_aload_n d_X9_advance_23 rfl 0 rfl ?_
    refine G_getI 9 3 (w9_kd hw9_r0) cok9 (by decide) rfl fl_X9_25 d_X9_advance_24 ?_
    refine G_bald j0 (w9_k0 hw9_r0) (hi_j0 c0) (hb c0) d_X9_advance_27 ?_
    refine G_bipush d_X9_advance_28 bp_32 ?_
    refine G_icmp_ne (tgt := 46) d_X9_advance_30 rfl (fun c1 => ?_) (fun c1 => ?_)
    ·
      exact (h_2 c0 c1)
    ·
      refine G_aload_n d_X9_advance_33 rfl 0 rfl ?_
      refine G_dup d_X9_advance_34 rfl ?_
      refine G_getI 9 3 (w9_kd hw9_r0) cok9 (by decide) rfl fl_X9_25 d_X9_advance_35 ?_
      refine G_iconst d_X9_advance_38 ic_1 ?_
      refine G_iadd d_X9_advance_39 ?_
      refine G_putI 9 3 (w9_kd hw9_r0) rfl rfl cok9 (by decide) rfl (Or.inl rfl) fl_X9_25 d_X9_advance_40 ?_
      refine G_goto (tgt := 8) d_X9_advance_43 rfl ?_
      exact (h_3 c0 c1)
theorem b_X9_advance_46 {X : cX} {d : Nat} {μ : mM} {K : Option Value → mM → Prop} {r0 : Nat} (hw9_r0 : WF9 μ r0) (h : G X (Rm d) mX9_advance 54 [(0, .ref r0)] [] (wi μ r0 4 (iv μ r0 3)) 0 0 K) : G X (Rm d) mX9_advance 46 [(0, .ref r0)] [] μ 0 0 K := by
  refine G_aload_n d_X9_advance_46 rfl 0 rfl ?_
  refine G_aload_n d_X9_advance_47 rfl 0 rfl ?_
  refine G_getI 9 3 (w9_kd hw9_r0) cok9 (by decide) rfl fl_X9_25 d_X9_advance_48 ?_
  refine G_putI 9 4 (w9_kd hw9_r0) rfl rfl cok9 (by decide) rfl (Or.inl rfl) fl_X9_19 d_X9_advance_51 ?_
  exact h
theorem b_X9_advance_54 {X : cX} {d : Nat} {μ : mM} {K : Option Value → mM → Prop} {r0 : Nat} {j0 : Nat} (hw9_r0 : WF9 μ r0) (h : (iv μ r0 1) ≤ (iv μ r0 4) → G X (Rm d) mX9_advance 106 [(0, .ref r0)] [] μ 0 0 K) (hi_j0 : ¬ (iv μ r0 1) ≤ (iv μ r0 4) → iv μ r0 4 = nI j0) (hb : ¬ (iv μ r0 1) ≤ (iv μ r0 4) → j0 < 320) (h_2 : ¬ (iv μ r0 1) ≤ (iv μ r0 4) → (iv μ (r0 + 1) j0) < (97 : Int32) → G X (Rm d) mX9_advance 106 [(0, .ref r0)] [] μ 0 0 K) (hi_j0_2 : ¬ (iv μ r0 1) ≤ (iv μ r0 4) → ¬ (iv μ (r0 + 1) j0) < (97 : Int32) → iv μ r0 4 = nI j0) (hb_2 : ¬ (iv μ r0 1) ≤ (iv μ r0 4) → ¬ (iv μ (r0 + 1) j0) < (97 : Int32) → j0 < 320) (h_3 : ¬ (iv μ r0 1) ≤ (iv μ r0 4) → ¬ (iv μ (r0 + 1) j0) < (97 : Int32) → (122 : Int32) < (iv μ (r0 + 1) j0) → G X (Rm d) mX9_advance 106 [(0, .ref r0)] [] μ 0 0 K) (h_4 : ¬ (iv μ r0 1) ≤ (iv μ r0 4) → ¬ (iv μ (r0 + 1) j0) < (97 : Int32) → ¬ (122 : Int32) < (iv μ (r0 + 1) j0) → G X (Rm d) mX9_advance 54 [(0, .ref r0)] [] (wi μ r0 4 ((iv μ r0 4) + 1)) 0 0 K) : G X (Rm d) mX9_advance 54 [(0, .ref r0)] [] μ 0 0 K := by
  refine G_aload_n d_X9_advance_54 rfl 0 rfl ?_
  refine G_getI 9 4 (w9_kd hw9_r0) cok9 (by decide) rfl fl_X9_19 d_X9_advance_55 ?_
  refine G_aload_n d_X9_advance_58 rfl 0 rfl ?_
  refine G_getI 9 1 (w9_kd hw9_r0) cok9 (by decide) rfl fl_X9_15 d_X9_advance_59 ?_
  refine G_icmp_ge (tgt := 106) d_X9_advance_62 rfl (fun c0 => ?_) (fun c0 => ?_)
  ·
    exact (h c0)
  ·
    refine G_aload_n d_X9_advance_65 rfl 0 rfl ?_
    refine G_getR (r := r0 + 1) 9 0 (w9_kd hw9_r0) (w9_f0 hw9_r0) cok9 (by decide) rfl fl_X9_9 d_X9_advance_66 ?_
    refine G_aload_n d_X9_advance_69 rfl 0 rfl ?_
    refine G_getI 9 4 (w9_kd hw9_r0) cok9 (by decide) rfl fl_X9_19 d_X9_advance_70 ?_
    refine G_bald j0 (w9_k0 hw9_r0) (hi_j0 c0) (hb c0) d_X9_advance_73 ?_
    refine G_bipush d_X9_advance_74 bp_97 ?_
    refine G_icmp_lt (tgt := 106) d_X9_advance_76 rfl (fun c1 => ?_) (fun c1 => ?_)
    ·
      exact (h_2 c0 c1)
    ·
      refine G_aload_n d_X9_advance_79 rfl 0 rfl ?_
      refine G_getR (r := r0 + 1) 9 0 (w9_kd hw9_r0) (w9_f0 hw9_r0) cok9 (by decide) rfl fl_X9_9 d_X9_advance_80 ?_
      refine G_aload_n d_X9_advance_83 rfl 0 rfl ?_
      refine G_getI 9 4 (w9_kd hw9_r0) cok9 (by decide) rfl fl_X9_19 d_X9_advance_84 ?_
      refine G_bald j0 (w9_k0 hw9_r0) (hi_j0_2 c0 c1) (hb_2 c0 c1) d_X9_advance_87 ?_
      refine G_bipush d_X9_advance_88 bp_122 ?_
      refine G_icmp_gt (tgt := 106) d_X9_advance_90 rfl (fun c2 => ?_) (fun c2 => ?_)
      ·
        exact (h_3 c0 c1 c2)
      ·
        refine G_aload_n d_X9_advance_93 rfl 0 rfl ?_
        refine G_dup d_X9_advance_94 rfl ?_
        refine G_getI 9 4 (w9_kd hw9_r0) cok9 (by decide) rfl fl_X9_19 d_X9_advance_95 ?_
        refine G_iconst d_X9_advance_98 ic_1 ?_
        refine G_iadd d_X9_advance_99 ?_
        refine G_putI 9 4 (w9_kd hw9_r0) rfl rfl cok9 (by decide) rfl (Or.inl rfl) fl_X9_19 d_X9_advance_100 ?_
        refine G_goto (tgt := 54) d_X9_advance_103 rfl ?_
        exact (h_4 c0 c1 c2)
theorem b_X9_advance_106 {X : cX} {d : Nat} {μ : mM} {K : Option Value → mM → Prop} {r0 : Nat} (hw9_r0 : WF9 μ r0) (h : (iv μ r0 4) ≤ (iv μ r0 3) → G X (Rm d) mX9_advance 123 [(0, .ref r0)] [] μ 0 0 K) (hK : ¬ (iv μ r0 4) ≤ (iv μ r0 3) → K none (wi μ r0 2 1)) : G X (Rm d) mX9_advance 106 [(0, .ref r0)] [] μ 0 0 K := by
  refine G_aload_n d_X9_advance_106 rfl 0 rfl ?_
  refine G_getI 9 4 (w9_kd hw9_r0) cok9 (by decide) rfl fl_X9_19 d_X9_advance_107 ?_
  refine G_aload_n d_X9_advance_110 rfl 0 rfl ?_
  refine G_getI 9 3 (w9_kd hw9_r0) cok9 (by decide) rfl fl_X9_25 d_X9_advance_111 ?_
  refine G_icmp_le (tgt := 123) d_X9_advance_114 rfl (fun c0 => ?_) (fun c0 => ?_)
  ·
    exact (h c0)
  ·
    refine G_aload_n d_X9_advance_117 rfl 0 rfl ?_
    refine G_iconst d_X9_advance_118 ic_1 ?_
    refine G_putI 9 2 (w9_kd hw9_r0) rfl rfl cok9 (by decide) rfl (Or.inl rfl) fl_X9_28 d_X9_advance_119 ?_
    exact G_vret rfl rfl rfl d_X9_advance_122 (hK c0)
theorem b_X9_advance_123 {X : cX} {d : Nat} {μ : mM} {K : Option Value → mM → Prop} {r0 : Nat} {j0 : Nat} (hw9_r0 : WF9 μ r0) (h : (iv μ r0 1) ≤ (iv μ r0 4) → G X (Rm d) mX9_advance 175 [(0, .ref r0)] [] μ 0 0 K) (hi_j0 : ¬ (iv μ r0 1) ≤ (iv μ r0 4) → iv μ r0 4 = nI j0) (hb : ¬ (iv μ r0 1) ≤ (iv μ r0 4) → j0 < 320) (h_2 : ¬ (iv μ r0 1) ≤ (iv μ r0 4) → (iv μ (r0 + 1) j0) < (48 : Int32) → G X (Rm d) mX9_advance 175 [(0, .ref r0)] [] μ 0 0 K) (hi_j0_2 : ¬ (iv μ r0 1) ≤ (iv μ r0 4) → ¬ (iv μ (r0 + 1) j0) < (48 : Int32) → iv μ r0 4 = nI j0) (hb_2 : ¬ (iv μ r0 1) ≤ (iv μ r0 4) → ¬ (iv μ (r0 + 1) j0) < (48 : Int32) → j0 < 320) (h_3 : ¬ (iv μ r0 1) ≤ (iv μ r0 4) → ¬ (iv μ (r0 + 1) j0) < (48 : Int32) → (57 : Int32) < (iv μ (r0 + 1) j0) → G X (Rm d) mX9_advance 175 [(0, .ref r0)] [] μ 0 0 K) (h_4 : ¬ (iv μ r0 1) ≤ (iv μ r0 4) → ¬ (iv μ (r0 + 1) j0) < (48 : Int32) → ¬ (57 : Int32) < (iv μ (r0 + 1) j0) → G X (Rm d) mX9_advance 123 [(0, .ref r0)] [] (wi μ r0 4 ((iv μ r0 4) + 1)) 0 0 K) : G X (Rm d) mX9_advance 123 [(0, .ref r0)] [] μ 0 0 K := by
  refine G_aload_n d_X9_advance_123 rfl 0 rfl ?_
  refine G_getI 9 4 (w9_kd hw9_r0) cok9 (by decide) rfl fl_X9_19 d_X9_advance_124 ?_
  refine G_aload_n d_X9_advance_127 rfl 0 rfl ?_
  refine G_getI 9 1 (w9_kd hw9_r0) cok9 (by decide) rfl fl_X9_15 d_X9_advance_128 ?_
  refine G_icmp_ge (tgt := 175) d_X9_advance_131 rfl (fun c0 => ?_) (fun c0 => ?_)
  ·
    exact (h c0)
  ·
    refine G_aload_n d_X9_advance_134 rfl 0 rfl ?_
    refine G_getR (r := r0 + 1) 9 0 (w9_kd hw9_r0) (w9_f0 hw9_r0) cok9 (by decide) rfl fl_X9_9 d_X9_advance_135 ?_
    refine G_aload_n d_X9_advance_138 rfl 0 rfl ?_
    refine G_getI 9 4 (w9_kd hw9_r0) cok9 (by decide) rfl fl_X9_19 d_X9_advance_139 ?_
    refine G_bald j0 (w9_k0 hw9_r0) (hi_j0 c0) (hb c0) d_X9_advance_142 ?_
    refine G_bipush d_X9_advance_143 bp_48 ?_
    refine G_icmp_lt (tgt := 175) d_X9_advance_145 rfl (fun c1 => ?_) (fun c1 => ?_)
    ·
      exact (h_2 c0 c1)
    ·
      refine G_aload_n d_X9_advance_148 rfl 0 rfl ?_
      refine G_getR (r := r0 + 1) 9 0 (w9_kd hw9_r0) (w9_f0 hw9_r0) cok9 (by decide) rfl fl_X9_9 d_X9_advance_149 ?_
      refine G_aload_n d_X9_advance_152 rfl 0 rfl ?_
      refine G_getI 9 4 (w9_kd hw9_r0) cok9 (by decide) rfl fl_X9_19 d_X9_advance_153 ?_
      refine G_bald j0 (w9_k0 hw9_r0) (hi_j0_2 c0 c1) (hb_2 c0 c1) d_X9_advance_156 ?_
      refine G_bipush d_X9_advance_157 bp_57 ?_
      refine G_icmp_gt (tgt := 175) d_X9_advance_159 rfl (fun c2 => ?_) (fun c2 => ?_)
      ·
        exact (h_3 c0 c1 c2)
      ·
        refine G_aload_n d_X9_advance_162 rfl 0 rfl ?_
        refine G_dup d_X9_advance_163 rfl ?_
        refine G_getI 9 4 (w9_kd hw9_r0) cok9 (by decide) rfl fl_X9_19 d_X9_advance_164 ?_
        refine G_iconst d_X9_advance_167 ic_1 ?_
        refine G_iadd d_X9_advance_168 ?_
        refine G_putI 9 4 (w9_kd hw9_r0) rfl rfl cok9 (by decide) rfl (Or.inl rfl) fl_X9_19 d_X9_advance_169 ?_
        refine G_goto (tgt := 123) d_X9_advance_172 rfl ?_
        exact (h_4 c0 c1 c2)
theorem b_X9_advance_175 {X : cX} {d : Nat} {μ : mM} {K : Option Value → mM → Prop} {r0 : Nat} {j0 : Nat} (hw9_r0 : WF9 μ r0) (hi_j0 : (iv μ r0 4) ≤ (iv μ r0 3) → (iv μ r0 3) < (iv μ r0 1) → iv (wi μ r0 4 ((iv μ r0 3) + 1)) r0 3 = nI j0) (hb : (iv μ r0 4) ≤ (iv μ r0 3) → (iv μ r0 3) < (iv μ r0 1) → j0 < 320) (h : (iv μ r0 4) ≤ (iv μ r0 3) → (iv μ r0 3) < (iv μ r0 1) → (iv (wi μ r0 4 ((iv μ r0 3) + 1)) (r0 + 1) j0) = (59 : Int32) → G X (Rm d) mX9_advance 265 [] [.ref r0] (wi μ r0 4 ((iv μ r0 3) + 1)) 0 0 K) (hi_j0_2 : (iv μ r0 4) ≤ (iv μ r0 3) → (iv μ r0 3) < (iv μ r0 1) → ¬ (iv (wi μ r0 4 ((iv μ r0 3) + 1)) (r0 + 1) j0) = (59 : Int32) → iv (wi μ r0 4 ((iv μ r0 3) + 1)) r0 3 = nI j0) (hb_2 : (iv μ r0 4) ≤ (iv μ r0 3) → (iv μ r0 3) < (iv μ r0 1) → ¬ (iv (wi μ r0 4 ((iv μ r0 3) + 1)) (r0 + 1) j0) = (59 : Int32) → j0 < 320) (h_2 : (iv μ r0 4) ≤ (iv μ r0 3) → (iv μ r0 3) < (iv μ r0 1) → ¬ (iv (wi μ r0 4 ((iv μ r0 3) + 1)) (r0 + 1) j0) = (59 : Int32) → ¬ (iv (wi μ r0 4 ((iv μ r0 3) + 1)) (r0 + 1) j0) = (58 : Int32) → G X (Rm d) mX9_advance 270 [] [.int 4, .ref r0] (wi μ r0 4 ((iv μ r0 3) + 1)) 0 0 K) (h_3 : (iv μ r0 4) ≤ (iv μ r0 3) → (iv μ r0 3) < (iv μ r0 1) → ¬ (iv (wi μ r0 4 ((iv μ r0 3) + 1)) (r0 + 1) j0) = (59 : Int32) → (iv (wi μ r0 4 ((iv μ r0 3) + 1)) (r0 + 1) j0) = (58 : Int32) → G X (Rm d) mX9_advance 265 [] [.ref r0] (wi μ r0 4 ((iv μ r0 3) + 1)) 0 0 K) (hK : (iv μ r0 4) ≤ (iv μ r0 3) → ¬ (iv μ r0 3) < (iv μ r0 1) → K none (wi μ r0 2 0)) (h_4 : ¬ (iv μ r0 4) ≤ (iv μ r0 3) → ((iv μ r0 4) - (iv μ r0 3)) ≤ (2 : Int32) → G X (Rm d) mX9_advance 205 [] [.int 2, .ref r0] μ 0 0 K) (h_5 : ¬ (iv μ r0 4) ≤ (iv μ r0 3) → ¬ ((iv μ r0 4) - (iv μ r0 3)) ≤ (2 : Int32) → G X (Rm d) mX9_advance 205 [] [.int 4, .ref r0] μ 0 0 K) : G X (Rm d) mX9_advance 175 [(0, .ref r0)] [] μ 0 0 K := by
  refine G_aload_n d_X9_advance_175 rfl 0 rfl ?_
  refine G_getI 9 4 (w9_kd hw9_r0) cok9 (by decide) rfl fl_X9_19 d_X9_advance_176 ?_
  refine G_aload_n d_X9_advance_179 rfl 0 rfl ?_
  refine G_getI 9 3 (w9_kd hw9_r0) cok9 (by decide) rfl fl_X9_25 d_X9_advance_180 ?_
  refine G_icmp_le (tgt := 209) d_X9_advance_183 rfl (fun c0 => ?_) (fun c0 => ?_)
  ·
    refine G_aload_n d_X9_advance_209 rfl 0 rfl ?_
    refine G_getI 9 3 (w9_kd hw9_r0) cok9 (by decide) rfl fl_X9_25 d_X9_advance_210 ?_
    refine G_aload_n d_X9_advance_213 rfl 0 rfl ?_
    refine G_getI 9 1 (w9_kd hw9_r0) cok9 (by decide) rfl fl_X9_15 d_X9_advance_214 ?_
    refine G_icmp_lt (tgt := 226) d_X9_advance_217 rfl (fun c1 => ?_) (fun c1 => ?_)
    ·
      refine G_aload_n d_X9_advance_226 rfl 0 rfl ?_
      refine G_aload_n d_X9_advance_227 rfl 0 rfl ?_
      refine G_getI 9 3 (w9_kd hw9_r0) cok9 (by decide) rfl fl_X9_25 d_X9_advance_228 ?_
      refine G_iconst d_X9_advance_231 ic_1 ?_
      refine G_iadd d_X9_advance_232 ?_
      refine G_putI 9 4 (w9_kd hw9_r0) rfl rfl cok9 (by decide) rfl (Or.inl rfl) fl_X9_19 d_X9_advance_233 ?_
      refine G_aload_n d_X9_advance_236 rfl 0 rfl ?_
      refine G_aload_n d_X9_advance_237 rfl 0 rfl ?_
      refine G_getR (r := r0 + 1) 9 0 (w9_kd hw9_r0) (w9_f0 hw9_r0) cok9 (by decide) rfl fl_X9_9 d_X9_advance_238 ?_
      refine G_aload_n d_X9_advance_241 rfl 0 rfl ?_
      refine G_getI 9 3 (w9_kd hw9_r0) cok9 (by decide) rfl fl_X9_25 d_X9_advance_242 ?_
      refine G_bald j0 (w9_k0 hw9_r0) (hi_j0 c0 c1) (hb c0 c1) d_X9_advance_245 ?_
      refine G_bipush d_X9_advance_246 bp_59 ?_
      refine G_icmp_eq (tgt := 265) d_X9_advance_248 rfl (fun c2 => ?_) (fun c2 => ?_)
      ·
        refine G_sub (L' := []) [] rfl ?_
        exact (h c0 c1 c2)
      ·
        refine G_aload_n d_X9_advance_251 rfl 0 rfl ?_
        refine G_getR (r := r0 + 1) 9 0 (w9_kd hw9_r0) (w9_f0 hw9_r0) cok9 (by decide) rfl fl_X9_9 d_X9_advance_252 ?_
        refine G_aload_n d_X9_advance_255 rfl 0 rfl ?_
        refine G_getI 9 3 (w9_kd hw9_r0) cok9 (by decide) rfl fl_X9_25 d_X9_advance_256 ?_
        refine G_bald j0 (w9_k0 hw9_r0) (hi_j0_2 c0 c1 c2) (hb_2 c0 c1 c2) d_X9_advance_259 ?_
        refine G_bipush d_X9_advance_260 bp_58 ?_
        refine G_icmp_ne (tgt := 269) d_X9_advance_262 rfl (fun c3 => ?_) (fun c3 => ?_)
        ·
          refine G_iconst d_X9_advance_269 ic_4 ?_
          refine G_sub (L' := []) [] rfl ?_
          exact (h_2 c0 c1 c2 c3)
        ·
          refine G_sub (L' := []) [] rfl ?_
          exact (h_3 c0 c1 c2 c3)
    ·
      refine G_aload_n d_X9_advance_220 rfl 0 rfl ?_
      refine G_iconst d_X9_advance_221 ic_0 ?_
      refine G_putI 9 2 (w9_kd hw9_r0) rfl rfl cok9 (by decide) rfl (Or.inl rfl) fl_X9_28 d_X9_advance_222 ?_
      exact G_vret rfl rfl rfl d_X9_advance_225 (hK c0 c1)
  ·
    refine G_aload_n d_X9_advance_186 rfl 0 rfl ?_
    refine G_aload_n d_X9_advance_187 rfl 0 rfl ?_
    refine G_getI 9 4 (w9_kd hw9_r0) cok9 (by decide) rfl fl_X9_19 d_X9_advance_188 ?_
    refine G_aload_n d_X9_advance_191 rfl 0 rfl ?_
    refine G_getI 9 3 (w9_kd hw9_r0) cok9 (by decide) rfl fl_X9_25 d_X9_advance_192 ?_
    refine G_isub d_X9_advance_195 ?_
    refine G_iconst d_X9_advance_196 ic_2 ?_
    refine G_icmp_le (tgt := 204) d_X9_advance_197 rfl (fun c1 => ?_) (fun c1 => ?_)
    ·
      refine G_iconst d_X9_advance_204 ic_2 ?_
      refine G_sub (L' := []) [] rfl ?_
      exact (h_4 c0 c1)
    ·
      refine G_iconst d_X9_advance_200 ic_4 ?_
      refine G_goto (tgt := 205) d_X9_advance_201 rfl ?_
      refine G_sub (L' := []) [] rfl ?_
      exact (h_5 c0 c1)
theorem b_X9_advance_205 {X : cX} {d : Nat} {μ : mM} {K : Option Value → mM → Prop} {q0 : Nat} {v1 : Int32} (hw9_q0 : WF9 μ q0) (hK : K none (wi μ q0 2 v1)) : G X (Rm d) mX9_advance 205 [] [.int v1, .ref q0] μ 0 0 K := by
  refine G_putI 9 2 (w9_kd hw9_q0) rfl rfl cok9 (by decide) rfl (Or.inl rfl) fl_X9_28 d_X9_advance_205 ?_
  exact G_vret rfl rfl rfl d_X9_advance_208 hK
theorem b_X9_advance_265 {X : cX} {d : Nat} {μ : mM} {K : Option Value → mM → Prop} {q0 : Nat} (h : G X (Rm d) mX9_advance 270 [] [.int 3, .ref q0] μ 0 0 K) : G X (Rm d) mX9_advance 265 [] [.ref q0] μ 0 0 K := by
  refine G_iconst d_X9_advance_265 ic_3 ?_
  refine G_goto (tgt := 270) d_X9_advance_266 rfl ?_
  exact h
theorem b_X9_advance_270 {X : cX} {d : Nat} {μ : mM} {K : Option Value → mM → Prop} {q0 : Nat} {v1 : Int32} (hw9_q0 : WF9 μ q0) (hK : K none (wi μ q0 2 v1)) : G X (Rm d) mX9_advance 270 [] [.int v1, .ref q0] μ 0 0 K := by
  refine G_putI 9 2 (w9_kd hw9_q0) rfl rfl cok9 (by decide) rfl (Or.inl rfl) fl_X9_28 d_X9_advance_270 ?_
  exact G_vret rfl rfl rfl d_X9_advance_273 hK
theorem d_X9_rewind_0 : decode cX9_rewind 0 = .ok (.aload_n 0, 1) := by decide +kernel
theorem d_X9_rewind_1 : decode cX9_rewind 1 = .ok (.iconst 0, 1) := by decide +kernel
theorem d_X9_rewind_2 : decode cX9_rewind 2 = .ok (.putfield 19, 3) := by decide +kernel
theorem d_X9_rewind_5 : decode cX9_rewind 5 = .ok (.aload_n 0, 1) := by decide +kernel
theorem d_X9_rewind_6 : decode cX9_rewind 6 = .ok (.invokevirtual 22, 3) := by decide +kernel
theorem d_X9_rewind_9 : decode cX9_rewind 9 = .ok (.return_, 1) := by decide +kernel
theorem b_X9_rewind_0 {X : cX} {d : Nat} {μ : mM} {K : Option Value → mM → Prop} {r0 : Nat} (hw9_r0 : WF9 μ r0) (hc_advance : Ct X (Rm d) mX9_advance [.ref r0] (wi μ r0 4 0) (fun r μ2 => G X (Rm (d + 1)) mX9_rewind 9 [] (r.toList ++ []) μ2 0 0 K)) : G X (Rm (d + 1)) mX9_rewind 0 [(0, .ref r0)] [] μ 0 0 K := by
  refine G_aload_n d_X9_rewind_0 rfl 0 rfl ?_
  refine G_iconst d_X9_rewind_1 ic_0 ?_
  refine G_putI 9 4 (w9_kd hw9_r0) rfl rfl cok9 (by decide) rfl (Or.inl rfl) fl_X9_19 d_X9_rewind_2 ?_
  refine G_aload_n d_X9_rewind_5 rfl 0 rfl ?_
  refine G_sub (L' := []) [] rfl ?_
  refine G_callV (M' := mX9_advance) (R' := (Rm d)) (S := []) [] 9 (w9_kd hw9_r0) cok9 rfl ok_X9_advance ml_X9_22 pn_X9_advance (ru_Rm (by decide)) (Nat.le_of_ble_eq_true rfl) d_X9_rewind_6 ?_
  exact hc_advance
theorem b_X9_rewind_9 {X : cX} {d : Nat} {μ : mM} {K : Option Value → mM → Prop}  (hK : K none μ) : G X (Rm (d + 1)) mX9_rewind 9 [] [] μ 0 0 K := by
  exact G_vret rfl rfl rfl d_X9_rewind_9 hK
theorem d_X4_refuse_0 : decode cX4_refuse 0 = .ok (.aload_n 0, 1) := by decide +kernel
theorem d_X4_refuse_1 : decode cX4_refuse 1 = .ok (.iload_n 2, 1) := by decide +kernel
theorem d_X4_refuse_2 : decode cX4_refuse 2 = .ok (.putfield 25, 3) := by decide +kernel
theorem d_X4_refuse_5 : decode cX4_refuse 5 = .ok (.aload_n 0, 1) := by decide +kernel
theorem d_X4_refuse_6 : decode cX4_refuse 6 = .ok (.aload_n 1, 1) := by decide +kernel
theorem d_X4_refuse_7 : decode cX4_refuse 7 = .ok (.getfield 59, 3) := by decide +kernel
theorem d_X4_refuse_10 : decode cX4_refuse 10 = .ok (.putfield 28, 3) := by decide +kernel
theorem d_X4_refuse_13 : decode cX4_refuse 13 = .ok (.iconst 0, 1) := by decide +kernel
theorem d_X4_refuse_14 : decode cX4_refuse 14 = .ok (.ireturn, 1) := by decide +kernel
theorem b_X4_refuse_0 {X : cX} {d : Nat} {μ : mM} {K : Option Value → mM → Prop} {r0 : Nat} {r1 : Nat} {l2 : Int32} (hw4_r0 : WF4 μ r0) (hw9_r1 : WF9 μ r1) (hK : K (some (.int 0)) (wi (wi μ r0 2 l2) r0 3 (iv (wi μ r0 2 l2) r1 3))) : G X (Rm d) mX4_refuse 0 [(0, .ref r0), (1, .ref r1), (2, .int l2)] [] μ 0 0 K := by
  refine G_aload_n d_X4_refuse_0 rfl 0 rfl ?_
  refine G_iload_n d_X4_refuse_1 rfl 2 rfl ?_
  refine G_putI 4 2 (w4_kd hw4_r0) rfl rfl cok4 (by decide) rfl (Or.inl rfl) fl_X4_25 d_X4_refuse_2 ?_
  refine G_aload_n d_X4_refuse_5 rfl 0 rfl ?_
  refine G_aload_n d_X4_refuse_6 rfl 1 rfl ?_
  refine G_getI 9 3 (w9_kd hw9_r1) cok9 (by decide) rfl fl_X4_59 d_X4_refuse_7 ?_
  refine G_putI 4 3 (w4_kd hw4_r0) rfl rfl cok4 (by decide) rfl (Or.inl rfl) fl_X4_28 d_X4_refuse_10 ?_
  refine G_iconst d_X4_refuse_13 ic_0 ?_
  exact G_zret rfl rfl rfl rfl d_X4_refuse_14 hK
theorem d_X9_isSign_0 : decode cX9_isSign 0 = .ok (.aload_n 0, 1) := by decide +kernel
theorem d_X9_isSign_1 : decode cX9_isSign 1 = .ok (.getfield 28, 3) := by decide +kernel
theorem d_X9_isSign_4 : decode cX9_isSign 4 = .ok (.iconst 3, 1) := by decide +kernel
theorem d_X9_isSign_5 : decode cX9_isSign 5 = .ok (.if_icmp .ne 20, 3) := by decide +kernel
theorem d_X9_isSign_8 : decode cX9_isSign 8 = .ok (.aload_n 0, 1) := by decide +kernel
theorem d_X9_isSign_9 : decode cX9_isSign 9 = .ok (.getfield 9, 3) := by decide +kernel
theorem d_X9_isSign_12 : decode cX9_isSign 12 = .ok (.aload_n 0, 1) := by decide +kernel
theorem d_X9_isSign_13 : decode cX9_isSign 13 = .ok (.getfield 25, 3) := by decide +kernel
theorem d_X9_isSign_16 : decode cX9_isSign 16 = .ok (.baload, 1) := by decide +kernel
theorem d_X9_isSign_17 : decode cX9_isSign 17 = .ok (.iload_n 1, 1) := by decide +kernel
theorem d_X9_isSign_18 : decode cX9_isSign 18 = .ok (.if_icmp .ne 7, 3) := by decide +kernel
theorem d_X9_isSign_21 : decode cX9_isSign 21 = .ok (.iconst 1, 1) := by decide +kernel
theorem d_X9_isSign_22 : decode cX9_isSign 22 = .ok (.goto 4, 3) := by decide +kernel
theorem d_X9_isSign_25 : decode cX9_isSign 25 = .ok (.iconst 0, 1) := by decide +kernel
theorem d_X9_isSign_26 : decode cX9_isSign 26 = .ok (.ireturn, 1) := by decide +kernel
theorem b_X9_isSign_0 {X : cX} {d : Nat} {μ : mM} {K : Option Value → mM → Prop} {r0 : Nat} {l1 : Int32} {j0 : Nat} (hw9_r0 : WF9 μ r0) (hK : ¬ (iv μ r0 2) = (3 : Int32) → K (some (.int 0)) μ) (hi_j0 : (iv μ r0 2) = (3 : Int32) → iv μ r0 3 = nI j0) (hb : (iv μ r0 2) = (3 : Int32) → j0 < 320) (hK_2 : (iv μ r0 2) = (3 : Int32) → ¬ (iv μ (r0 + 1) j0) = l1 → K (some (.int 0)) μ) (hK_3 : (iv μ r0 2) = (3 : Int32) → (iv μ (r0 + 1) j0) = l1 → K (some (.int 1)) μ) : G X (Rm d) mX9_isSign 0 [(0, .ref r0), (1, .int l1)] [] μ 0 0 K := by
  refine G_aload_n d_X9_isSign_0 rfl 0 rfl ?_
  refine G_getI 9 2 (w9_kd hw9_r0) cok9 (by decide) rfl fl_X9_28 d_X9_isSign_1 ?_
  refine G_iconst d_X9_isSign_4 ic_3 ?_
  refine G_icmp_ne (tgt := 25) d_X9_isSign_5 rfl (fun c0 => ?_) (fun c0 => ?_)
  ·
    refine G_iconst d_X9_isSign_25 ic_0 ?_
    exact G_zret rfl rfl rfl rfl d_X9_isSign_26 (hK c0)
  ·
    refine G_aload_n d_X9_isSign_8 rfl 0 rfl ?_
    refine G_getR (r := r0 + 1) 9 0 (w9_kd hw9_r0) (w9_f0 hw9_r0) cok9 (by decide) rfl fl_X9_9 d_X9_isSign_9 ?_
    refine G_aload_n d_X9_isSign_12 rfl 0 rfl ?_
    refine G_getI 9 3 (w9_kd hw9_r0) cok9 (by decide) rfl fl_X9_25 d_X9_isSign_13 ?_
    refine G_bald j0 (w9_k0 hw9_r0) (hi_j0 c0) (hb c0) d_X9_isSign_16 ?_
    refine G_iload_n d_X9_isSign_17 rfl 1 rfl ?_
    refine G_icmp_ne (tgt := 25) d_X9_isSign_18 rfl (fun c1 => ?_) (fun c1 => ?_)
    ·
      refine G_iconst d_X9_isSign_25 ic_0 ?_
      exact G_zret rfl rfl rfl rfl d_X9_isSign_26 (hK_2 c0 c1)
    ·
      refine G_iconst d_X9_isSign_21 ic_1 ?_
      refine G_goto (tgt := 26) d_X9_isSign_22 rfl ?_
      exact G_zret rfl rfl rfl rfl d_X9_isSign_26 (hK_3 c0 c1)
theorem d_X4_refuseToken_0 : decode cX4_refuseToken 0 = .ok (.aload_n 0, 1) := by decide +kernel
theorem d_X4_refuseToken_1 : decode cX4_refuseToken 1 = .ok (.aload_n 1, 1) := by decide +kernel
theorem d_X4_refuseToken_2 : decode cX4_refuseToken 2 = .ok (.getfield 39, 3) := by decide +kernel
theorem d_X4_refuseToken_5 : decode cX4_refuseToken 5 = .ok (.iconst 4, 1) := by decide +kernel
theorem d_X4_refuseToken_6 : decode cX4_refuseToken 6 = .ok (.if_icmp .ne 7, 3) := by decide +kernel
theorem d_X4_refuseToken_9 : decode cX4_refuseToken 9 = .ok (.iconst 1, 1) := by decide +kernel
theorem d_X4_refuseToken_10 : decode cX4_refuseToken 10 = .ok (.goto 4, 3) := by decide +kernel
theorem d_X4_refuseToken_13 : decode cX4_refuseToken 13 = .ok (.iconst 2, 1) := by decide +kernel
theorem d_X4_refuseToken_14 : decode cX4_refuseToken 14 = .ok (.putfield 25, 3) := by decide +kernel
theorem d_X4_refuseToken_17 : decode cX4_refuseToken 17 = .ok (.aload_n 0, 1) := by decide +kernel
theorem d_X4_refuseToken_18 : decode cX4_refuseToken 18 = .ok (.aload_n 1, 1) := by decide +kernel
theorem d_X4_refuseToken_19 : decode cX4_refuseToken 19 = .ok (.getfield 59, 3) := by decide +kernel
theorem d_X4_refuseToken_22 : decode cX4_refuseToken 22 = .ok (.putfield 28, 3) := by decide +kernel
theorem d_X4_refuseToken_25 : decode cX4_refuseToken 25 = .ok (.iconst 0, 1) := by decide +kernel
theorem d_X4_refuseToken_26 : decode cX4_refuseToken 26 = .ok (.ireturn, 1) := by decide +kernel
theorem b_X4_refuseToken_0 {X : cX} {d : Nat} {μ : mM} {K : Option Value → mM → Prop} {r0 : Nat} {r1 : Nat} (hw9_r1 : WF9 μ r1) (h : ¬ (iv μ r1 2) = (4 : Int32) → G X (Rm d) mX4_refuseToken 14 [(0, .ref r0), (1, .ref r1)] [.int 2, .ref r0] μ 0 0 K) (h_2 : (iv μ r1 2) = (4 : Int32) → G X (Rm d) mX4_refuseToken 14 [(0, .ref r0), (1, .ref r1)] [.int 1, .ref r0] μ 0 0 K) : G X (Rm d) mX4_refuseToken 0 [(0, .ref r0), (1, .ref r1)] [] μ 0 0 K := by
  refine G_aload_n d_X4_refuseToken_0 rfl 0 rfl ?_
  refine G_aload_n d_X4_refuseToken_1 rfl 1 rfl ?_
  refine G_getI 9 2 (w9_kd hw9_r1) cok9 (by decide) rfl fl_X4_39 d_X4_refuseToken_2 ?_
  refine G_iconst d_X4_refuseToken_5 ic_4 ?_
  refine G_icmp_ne (tgt := 13) d_X4_refuseToken_6 rfl (fun c0 => ?_) (fun c0 => ?_)
  ·
    refine G_iconst d_X4_refuseToken_13 ic_2 ?_
    exact (h c0)
  ·
    refine G_iconst d_X4_refuseToken_9 ic_1 ?_
    refine G_goto (tgt := 14) d_X4_refuseToken_10 rfl ?_
    exact (h_2 c0)
theorem b_X4_refuseToken_14 {X : cX} {d : Nat} {μ : mM} {K : Option Value → mM → Prop} {r0 : Nat} {r1 : Nat} {q0 : Nat} {v1 : Int32} (hw4_q0 : WF4 μ q0) (hw9_r1 : WF9 μ r1) (hw4_r0 : WF4 μ r0) (hK : K (some (.int 0)) (wi (wi μ q0 2 v1) r0 3 (iv (wi μ q0 2 v1) r1 3))) : G X (Rm d) mX4_refuseToken 14 [(0, .ref r0), (1, .ref r1)] [.int v1, .ref q0] μ 0 0 K := by
  refine G_putI 4 2 (w4_kd hw4_q0) rfl rfl cok4 (by decide) rfl (Or.inl rfl) fl_X4_25 d_X4_refuseToken_14 ?_
  refine G_aload_n d_X4_refuseToken_17 rfl 0 rfl ?_
  refine G_aload_n d_X4_refuseToken_18 rfl 1 rfl ?_
  refine G_getI 9 3 (w9_kd hw9_r1) cok9 (by decide) rfl fl_X4_59 d_X4_refuseToken_19 ?_
  refine G_putI 4 3 (w4_kd hw4_r0) rfl rfl cok4 (by decide) rfl (Or.inl rfl) fl_X4_28 d_X4_refuseToken_22 ?_
  refine G_iconst d_X4_refuseToken_25 ic_0 ?_
  exact G_zret rfl rfl rfl rfl d_X4_refuseToken_26 hK
theorem d_X4_takeSign_0 : decode cX4_takeSign 0 = .ok (.aload_n 1, 1) := by decide +kernel
theorem d_X4_takeSign_1 : decode cX4_takeSign 1 = .ok (.iload_n 2, 1) := by decide +kernel
theorem d_X4_takeSign_2 : decode cX4_takeSign 2 = .ok (.invokevirtual 140, 3) := by decide +kernel
theorem d_X4_takeSign_5 : decode cX4_takeSign 5 = .ok (.ifCond .ne 9, 3) := by decide +kernel
theorem d_X4_takeSign_8 : decode cX4_takeSign 8 = .ok (.aload_n 0, 1) := by decide +kernel
theorem d_X4_takeSign_9 : decode cX4_takeSign 9 = .ok (.aload_n 1, 1) := by decide +kernel
theorem d_X4_takeSign_10 : decode cX4_takeSign 10 = .ok (.invokevirtual 89, 3) := by decide +kernel
theorem d_X4_takeSign_13 : decode cX4_takeSign 13 = .ok (.ireturn, 1) := by decide +kernel
theorem d_X4_takeSign_14 : decode cX4_takeSign 14 = .ok (.aload_n 1, 1) := by decide +kernel
theorem d_X4_takeSign_15 : decode cX4_takeSign 15 = .ok (.invokevirtual 100, 3) := by decide +kernel
theorem d_X4_takeSign_18 : decode cX4_takeSign 18 = .ok (.iconst 1, 1) := by decide +kernel
theorem d_X4_takeSign_19 : decode cX4_takeSign 19 = .ok (.ireturn, 1) := by decide +kernel
theorem b_X4_takeSign_0 {X : cX} {d : Nat} {μ : mM} {K : Option Value → mM → Prop} {r0 : Nat} {r1 : Nat} {l2 : Int32} (hw9_r1 : WF9 μ r1) (hc_isSign : Ct X (Rm d) mX9_isSign [.ref r1, .int l2] μ (fun r μ2 => G X (Rm (d + 1)) mX4_takeSign 5 [(0, .ref r0), (1, .ref r1)] (r.toList ++ []) μ2 0 0 K)) : G X (Rm (d + 1)) mX4_takeSign 0 [(0, .ref r0), (1, .ref r1), (2, .int l2)] [] μ 0 0 K := by
  refine G_aload_n d_X4_takeSign_0 rfl 1 rfl ?_
  refine G_iload_n d_X4_takeSign_1 rfl 2 rfl ?_
  refine G_sub (L' := [(0, .ref r0), (1, .ref r1)]) [0, 1] rfl ?_
  refine G_callV (M' := mX9_isSign) (R' := (Rm d)) (S := []) [.int l2] 9 (w9_kd hw9_r1) cok9 rfl ok_X9_isSign ml_X4_140 pn_X9_isSign (ru_Rm (by decide)) (Nat.le_of_ble_eq_true rfl) d_X4_takeSign_2 ?_
  exact hc_isSign
theorem b_X4_takeSign_5 {X : cX} {d : Nat} {μ : mM} {K : Option Value → mM → Prop} {r0 : Nat} {r1 : Nat} {v0 : Int32} (hw9_r1 : WF9 μ r1) (hc_advance : ¬ v0 = 0 → Ct X (Rm d) mX9_advance [.ref r1] μ (fun r μ2 => G X (Rm (d + 1)) mX4_takeSign 18 [] (r.toList ++ []) μ2 0 0 K)) (hw4_r0 : WF4 μ r0) (hc_refuseToken : v0 = 0 → Ct X (Rm d) mX4_refuseToken [.ref r0, .ref r1] μ (fun r μ2 => G X (Rm (d + 1)) mX4_takeSign 13 [] (r.toList ++ []) μ2 0 0 K)) : G X (Rm (d + 1)) mX4_takeSign 5 [(0, .ref r0), (1, .ref r1)] [.int v0] μ 0 0 K := by
  refine G_if_ne (tgt := 14) d_X4_takeSign_5 rfl (fun c0 => ?_) (fun c0 => ?_)
  ·
    refine G_aload_n d_X4_takeSign_14 rfl 1 rfl ?_
    refine G_sub (L' := []) [] rfl ?_
    refine G_callV (M' := mX9_advance) (R' := (Rm d)) (S := []) [] 9 (w9_kd hw9_r1) cok9 rfl ok_X9_advance ml_X4_100 pn_X9_advance (ru_Rm (by decide)) (Nat.le_of_ble_eq_true rfl) d_X4_takeSign_15 ?_
    exact (hc_advance c0)
  ·
    refine G_aload_n d_X4_takeSign_8 rfl 0 rfl ?_
    refine G_aload_n d_X4_takeSign_9 rfl 1 rfl ?_
    refine G_sub (L' := []) [] rfl ?_
    refine G_callV (M' := mX4_refuseToken) (R' := (Rm d)) (S := []) [.ref r1] 4 (w4_kd hw4_r0) cok4 rfl ok_X4_refuseToken ml_X4_89 pn_X4_refuseToken (ru_Rm (by decide)) (Nat.le_of_ble_eq_true rfl) d_X4_takeSign_10 ?_
    exact (hc_refuseToken c0)
theorem b_X4_takeSign_13 {X : cX} {d : Nat} {μ : mM} {K : Option Value → mM → Prop} {v0 : Int32} (hK : K (some (.int v0)) μ) (hz : v0 = 0 ∨ v0 = 1) : G X (Rm (d + 1)) mX4_takeSign 13 [] [.int v0] μ 0 0 K := by
  exact G_zret rfl (nar_b hz) rfl rfl d_X4_takeSign_13 hK
theorem b_X4_takeSign_18 {X : cX} {d : Nat} {μ : mM} {K : Option Value → mM → Prop}  (hK : K (some (.int 1)) μ) : G X (Rm (d + 1)) mX4_takeSign 18 [] [] μ 0 0 K := by
  refine G_iconst d_X4_takeSign_18 ic_1 ?_
  exact G_zret rfl rfl rfl rfl d_X4_takeSign_19 hK
theorem d_X4_takeNode_0 : decode cX4_takeNode 0 = .ok (.aload_n 0, 1) := by decide +kernel
theorem d_X4_takeNode_1 : decode cX4_takeNode 1 = .ok (.getfield 12, 3) := by decide +kernel
theorem d_X4_takeNode_4 : decode cX4_takeNode 4 = .ok (.getfield 46, 3) := by decide +kernel
theorem d_X4_takeNode_7 : decode cX4_takeNode 7 = .ok (.invokevirtual 92, 3) := by decide +kernel
theorem d_X4_takeNode_10 : decode cX4_takeNode 10 = .ok (.ifCond .eq 10, 3) := by decide +kernel
theorem d_X4_takeNode_13 : decode cX4_takeNode 13 = .ok (.aload_n 0, 1) := by decide +kernel
theorem d_X4_takeNode_14 : decode cX4_takeNode 14 = .ok (.aload_n 1, 1) := by decide +kernel
theorem d_X4_takeNode_15 : decode cX4_takeNode 15 = .ok (.iconst 5, 1) := by decide +kernel
theorem d_X4_takeNode_16 : decode cX4_takeNode 16 = .ok (.invokevirtual 55, 3) := by decide +kernel
theorem d_X4_takeNode_19 : decode cX4_takeNode 19 = .ok (.ireturn, 1) := by decide +kernel
theorem d_X4_takeNode_20 : decode cX4_takeNode 20 = .ok (.aload_n 0, 1) := by decide +kernel
theorem d_X4_takeNode_21 : decode cX4_takeNode 21 = .ok (.getfield 12, 3) := by decide +kernel
theorem d_X4_takeNode_24 : decode cX4_takeNode 24 = .ok (.getfield 46, 3) := by decide +kernel
theorem d_X4_takeNode_27 : decode cX4_takeNode 27 = .ok (.iload_n 2, 1) := by decide +kernel
theorem d_X4_takeNode_28 : decode cX4_takeNode 28 = .ok (.invokevirtual 96, 3) := by decide +kernel
theorem d_X4_takeNode_31 : decode cX4_takeNode 31 = .ok (.aload_n 1, 1) := by decide +kernel
theorem d_X4_takeNode_32 : decode cX4_takeNode 32 = .ok (.invokevirtual 100, 3) := by decide +kernel
theorem d_X4_takeNode_35 : decode cX4_takeNode 35 = .ok (.aload_n 0, 1) := by decide +kernel
theorem d_X4_takeNode_36 : decode cX4_takeNode 36 = .ok (.aload_n 1, 1) := by decide +kernel
theorem d_X4_takeNode_37 : decode cX4_takeNode 37 = .ok (.bipush 59, 2) := by decide +kernel
theorem d_X4_takeNode_39 : decode cX4_takeNode 39 = .ok (.invokevirtual 103, 3) := by decide +kernel
theorem d_X4_takeNode_42 : decode cX4_takeNode 42 = .ok (.ireturn, 1) := by decide +kernel
theorem b_X4_takeNode_0 {X : cX} {d : Nat} {μ : mM} {K : Option Value → mM → Prop} {r0 : Nat} {r1 : Nat} {l2 : Int32} {p0 : Nat} (hw4_r0 : WF4 μ r0) (hr_p0 : rv μ r0 0 = some p0) (hw10_p0 : WF10 μ p0) (hw5_p01 : WF5 μ (p0 + 1)) (hc_append : (e_X5_isFull μ (p0 + 1)) = 0 → Ct X (Rm (d + 1)) mX5_append [.ref (p0 + 1), .int l2] μ (fun r μ2 => G X (Rm (d + 2)) mX4_takeNode 31 [(0, .ref r0), (1, .ref r1)] (r.toList ++ []) μ2 0 0 K)) (hc_refuse : ¬ (e_X5_isFull μ (p0 + 1)) = 0 → Ct X (Rm (d + 1)) mX4_refuse [.ref r0, .ref r1, .int 5] μ (fun r μ2 => G X (Rm (d + 2)) mX4_takeNode 19 [] (r.toList ++ []) μ2 0 0 K)) : G X (Rm (d + 2)) mX4_takeNode 0 [(0, .ref r0), (1, .ref r1), (2, .int l2)] [] μ 0 0 K := by
  refine G_aload_n d_X4_takeNode_0 rfl 0 rfl ?_
  refine G_getR (r := p0) 4 0 (w4_kd hw4_r0) hr_p0 cok4 (by decide) rfl fl_X4_12 d_X4_takeNode_1 ?_
  refine G_getR (r := p0 + 1) 10 0 (w10_kd hw10_p0) (w10_f0 hw10_p0) cok10 (by decide) rfl fl_X4_46 d_X4_takeNode_4 ?_
  refine G_callV (M' := mX5_isFull) (R' := (Rm (d + 1))) (S := []) [] 5 (w5_kd hw5_p01) cok5 rfl ok_X5_isFull ml_X4_92 pn_X5_isFull (ru_Rm (by decide)) (Nat.le_of_ble_eq_true rfl) d_X4_takeNode_7 (s_X5_isFull (μ := μ)  hw5_p01 ?_)
  show G X (Rm (d + 2)) mX4_takeNode 10 [(0, .ref r0), (1, .ref r1), (2, .int l2)] [.int (e_X5_isFull μ (p0 + 1))] μ 0 0 K
  refine G_if_eq (tgt := 20) d_X4_takeNode_10 rfl (fun c0 => ?_) (fun c0 => ?_)
  ·
    refine G_aload_n d_X4_takeNode_20 rfl 0 rfl ?_
    refine G_getR (r := p0) 4 0 (w4_kd hw4_r0) hr_p0 cok4 (by decide) rfl fl_X4_12 d_X4_takeNode_21 ?_
    refine G_getR (r := p0 + 1) 10 0 (w10_kd hw10_p0) (w10_f0 hw10_p0) cok10 (by decide) rfl fl_X4_46 d_X4_takeNode_24 ?_
    refine G_iload_n d_X4_takeNode_27 rfl 2 rfl ?_
    refine G_sub (L' := [(0, .ref r0), (1, .ref r1)]) [0, 1] rfl ?_
    refine G_callV (M' := mX5_append) (R' := (Rm (d + 1))) (S := []) [.int l2] 5 (w5_kd hw5_p01) cok5 rfl ok_X5_append ml_X4_96 pn_X5_append (ru_Rm (by decide)) (Nat.le_of_ble_eq_true rfl) d_X4_takeNode_28 ?_
    exact (hc_append c0)
  ·
    refine G_aload_n d_X4_takeNode_13 rfl 0 rfl ?_
    refine G_aload_n d_X4_takeNode_14 rfl 1 rfl ?_
    refine G_iconst d_X4_takeNode_15 ic_5 ?_
    refine G_sub (L' := []) [] rfl ?_
    refine G_callV (M' := mX4_refuse) (R' := (Rm (d + 1))) (S := []) [.ref r1, .int 5] 4 (w4_kd hw4_r0) cok4 rfl ok_X4_refuse ml_X4_55 pn_X4_refuse (ru_Rm (by decide)) (Nat.le_of_ble_eq_true rfl) d_X4_takeNode_16 ?_
    exact (hc_refuse c0)
theorem b_X4_takeNode_19 {X : cX} {d : Nat} {μ : mM} {K : Option Value → mM → Prop} {v0 : Int32} (hK : K (some (.int v0)) μ) (hz : v0 = 0 ∨ v0 = 1) : G X (Rm (d + 2)) mX4_takeNode 19 [] [.int v0] μ 0 0 K := by
  exact G_zret rfl (nar_b hz) rfl rfl d_X4_takeNode_19 hK
theorem b_X4_takeNode_31 {X : cX} {d : Nat} {μ : mM} {K : Option Value → mM → Prop} {r0 : Nat} {r1 : Nat} (hw9_r1 : WF9 μ r1) (hc_advance : Ct X (Rm (d + 1)) mX9_advance [.ref r1] μ (fun r μ2 => G X (Rm (d + 2)) mX4_takeNode 35 [(0, .ref r0), (1, .ref r1)] (r.toList ++ []) μ2 0 0 K)) : G X (Rm (d + 2)) mX4_takeNode 31 [(0, .ref r0), (1, .ref r1)] [] μ 0 0 K := by
  refine G_aload_n d_X4_takeNode_31 rfl 1 rfl ?_
  refine G_callV (M' := mX9_advance) (R' := (Rm (d + 1))) (S := []) [] 9 (w9_kd hw9_r1) cok9 rfl ok_X9_advance ml_X4_100 pn_X9_advance (ru_Rm (by decide)) (Nat.le_of_ble_eq_true rfl) d_X4_takeNode_32 ?_
  exact hc_advance
theorem b_X4_takeNode_35 {X : cX} {d : Nat} {μ : mM} {K : Option Value → mM → Prop} {r0 : Nat} {r1 : Nat} (hw4_r0 : WF4 μ r0) (hc_takeSign : Ct X (Rm (d + 1)) mX4_takeSign [.ref r0, .ref r1, .int 59] μ (fun r μ2 => G X (Rm (d + 2)) mX4_takeNode 42 [] (r.toList ++ []) μ2 0 0 K)) : G X (Rm (d + 2)) mX4_takeNode 35 [(0, .ref r0), (1, .ref r1)] [] μ 0 0 K := by
  refine G_aload_n d_X4_takeNode_35 rfl 0 rfl ?_
  refine G_aload_n d_X4_takeNode_36 rfl 1 rfl ?_
  refine G_bipush d_X4_takeNode_37 bp_59 ?_
  refine G_sub (L' := []) [] rfl ?_
  refine G_callV (M' := mX4_takeSign) (R' := (Rm (d + 1))) (S := []) [.ref r1, .int 59] 4 (w4_kd hw4_r0) cok4 rfl ok_X4_takeSign ml_X4_103 pn_X4_takeSign (ru_Rm (by decide)) (Nat.le_of_ble_eq_true rfl) d_X4_takeNode_39 ?_
  exact hc_takeSign
theorem b_X4_takeNode_42 {X : cX} {d : Nat} {μ : mM} {K : Option Value → mM → Prop} {v0 : Int32} (hK : K (some (.int v0)) μ) (hz : v0 = 0 ∨ v0 = 1) : G X (Rm (d + 2)) mX4_takeNode 42 [] [.int v0] μ 0 0 K := by
  exact G_zret rfl (nar_b hz) rfl rfl d_X4_takeNode_42 hK
theorem d_X9_oneOfThree_0 : decode cX9_oneOfThree 0 = .ok (.aload_n 0, 1) := by decide +kernel
theorem d_X9_oneOfThree_1 : decode cX9_oneOfThree 1 = .ok (.getfield 28, 3) := by decide +kernel
theorem d_X9_oneOfThree_4 : decode cX9_oneOfThree 4 = .ok (.iconst 1, 1) := by decide +kernel
theorem d_X9_oneOfThree_5 : decode cX9_oneOfThree 5 = .ok (.if_icmp .ne 16, 3) := by decide +kernel
theorem d_X9_oneOfThree_8 : decode cX9_oneOfThree 8 = .ok (.aload_n 0, 1) := by decide +kernel
theorem d_X9_oneOfThree_9 : decode cX9_oneOfThree 9 = .ok (.getfield 19, 3) := by decide +kernel
theorem d_X9_oneOfThree_12 : decode cX9_oneOfThree 12 = .ok (.aload_n 0, 1) := by decide +kernel
theorem d_X9_oneOfThree_13 : decode cX9_oneOfThree 13 = .ok (.getfield 25, 3) := by decide +kernel
theorem d_X9_oneOfThree_16 : decode cX9_oneOfThree 16 = .ok (.isub, 1) := by decide +kernel
theorem d_X9_oneOfThree_17 : decode cX9_oneOfThree 17 = .ok (.iconst 1, 1) := by decide +kernel
theorem d_X9_oneOfThree_18 : decode cX9_oneOfThree 18 = .ok (.if_icmp .eq 5, 3) := by decide +kernel
theorem d_X9_oneOfThree_21 : decode cX9_oneOfThree 21 = .ok (.iconst (-1), 1) := by decide +kernel
theorem d_X9_oneOfThree_22 : decode cX9_oneOfThree 22 = .ok (.ireturn, 1) := by decide +kernel
theorem d_X9_oneOfThree_23 : decode cX9_oneOfThree 23 = .ok (.aload_n 0, 1) := by decide +kernel
theorem d_X9_oneOfThree_24 : decode cX9_oneOfThree 24 = .ok (.getfield 9, 3) := by decide +kernel
theorem d_X9_oneOfThree_27 : decode cX9_oneOfThree 27 = .ok (.aload_n 0, 1) := by decide +kernel
theorem d_X9_oneOfThree_28 : decode cX9_oneOfThree 28 = .ok (.getfield 25, 3) := by decide +kernel
theorem d_X9_oneOfThree_31 : decode cX9_oneOfThree 31 = .ok (.baload, 1) := by decide +kernel
theorem d_X9_oneOfThree_32 : decode cX9_oneOfThree 32 = .ok (.iload_n 1, 1) := by decide +kernel
theorem d_X9_oneOfThree_33 : decode cX9_oneOfThree 33 = .ok (.isub, 1) := by decide +kernel
theorem d_X9_oneOfThree_34 : decode cX9_oneOfThree 34 = .ok (.istore_n 2, 1) := by decide +kernel
theorem d_X9_oneOfThree_35 : decode cX9_oneOfThree 35 = .ok (.iload_n 2, 1) := by decide +kernel
theorem d_X9_oneOfThree_36 : decode cX9_oneOfThree 36 = .ok (.ifCond .lt 12, 3) := by decide +kernel
theorem d_X9_oneOfThree_39 : decode cX9_oneOfThree 39 = .ok (.iload_n 2, 1) := by decide +kernel
theorem d_X9_oneOfThree_40 : decode cX9_oneOfThree 40 = .ok (.iconst 3, 1) := by decide +kernel
theorem d_X9_oneOfThree_41 : decode cX9_oneOfThree 41 = .ok (.if_icmp .ge 7, 3) := by decide +kernel
theorem d_X9_oneOfThree_44 : decode cX9_oneOfThree 44 = .ok (.iload_n 2, 1) := by decide +kernel
theorem d_X9_oneOfThree_45 : decode cX9_oneOfThree 45 = .ok (.goto 4, 3) := by decide +kernel
theorem d_X9_oneOfThree_48 : decode cX9_oneOfThree 48 = .ok (.iconst (-1), 1) := by decide +kernel
theorem d_X9_oneOfThree_49 : decode cX9_oneOfThree 49 = .ok (.ireturn, 1) := by decide +kernel
theorem b_X9_oneOfThree_0 {X : cX} {d : Nat} {μ : mM} {K : Option Value → mM → Prop} {r0 : Nat} {l1 : Int32} {j0 : Nat} (hw9_r0 : WF9 μ r0) (hK : ¬ (iv μ r0 2) = (1 : Int32) → K (some (.int (-1))) μ) (hi_j0 : (iv μ r0 2) = (1 : Int32) → ((iv μ r0 4) - (iv μ r0 3)) = (1 : Int32) → iv μ r0 3 = nI j0) (hb : (iv μ r0 2) = (1 : Int32) → ((iv μ r0 4) - (iv μ r0 3)) = (1 : Int32) → j0 < 320) (hK_2 : (iv μ r0 2) = (1 : Int32) → ((iv μ r0 4) - (iv μ r0 3)) = (1 : Int32) → ((iv μ (r0 + 1) j0) - l1) < 0 → K (some (.int (-1))) μ) (hK_3 : (iv μ r0 2) = (1 : Int32) → ((iv μ r0 4) - (iv μ r0 3)) = (1 : Int32) → ¬ ((iv μ (r0 + 1) j0) - l1) < 0 → (3 : Int32) ≤ ((iv μ (r0 + 1) j0) - l1) → K (some (.int (-1))) μ) (hK_4 : (iv μ r0 2) = (1 : Int32) → ((iv μ r0 4) - (iv μ r0 3)) = (1 : Int32) → ¬ ((iv μ (r0 + 1) j0) - l1) < 0 → ¬ (3 : Int32) ≤ ((iv μ (r0 + 1) j0) - l1) → K (some (.int ((iv μ (r0 + 1) j0) - l1))) μ) (hK_5 : (iv μ r0 2) = (1 : Int32) → ¬ ((iv μ r0 4) - (iv μ r0 3)) = (1 : Int32) → K (some (.int (-1))) μ) : G X (Rm d) mX9_oneOfThree 0 [(0, .ref r0), (1, .int l1)] [] μ 0 0 K := by
  refine G_aload_n d_X9_oneOfThree_0 rfl 0 rfl ?_
  refine G_getI 9 2 (w9_kd hw9_r0) cok9 (by decide) rfl fl_X9_28 d_X9_oneOfThree_1 ?_
  refine G_iconst d_X9_oneOfThree_4 ic_1 ?_
  refine G_icmp_ne (tgt := 21) d_X9_oneOfThree_5 rfl (fun c0 => ?_) (fun c0 => ?_)
  ·
    refine G_iconst d_X9_oneOfThree_21 ic_m1 ?_
    exact G_iret rfl rfl rfl d_X9_oneOfThree_22 (hK c0)
  ·
    refine G_aload_n d_X9_oneOfThree_8 rfl 0 rfl ?_
    refine G_getI 9 4 (w9_kd hw9_r0) cok9 (by decide) rfl fl_X9_19 d_X9_oneOfThree_9 ?_
    refine G_aload_n d_X9_oneOfThree_12 rfl 0 rfl ?_
    refine G_getI 9 3 (w9_kd hw9_r0) cok9 (by decide) rfl fl_X9_25 d_X9_oneOfThree_13 ?_
    refine G_isub d_X9_oneOfThree_16 ?_
    refine G_iconst d_X9_oneOfThree_17 ic_1 ?_
    refine G_icmp_eq (tgt := 23) d_X9_oneOfThree_18 rfl (fun c1 => ?_) (fun c1 => ?_)
    ·
      refine G_aload_n d_X9_oneOfThree_23 rfl 0 rfl ?_
      refine G_getR (r := r0 + 1) 9 0 (w9_kd hw9_r0) (w9_f0 hw9_r0) cok9 (by decide) rfl fl_X9_9 d_X9_oneOfThree_24 ?_
      refine G_aload_n d_X9_oneOfThree_27 rfl 0 rfl ?_
      refine G_getI 9 3 (w9_kd hw9_r0) cok9 (by decide) rfl fl_X9_25 d_X9_oneOfThree_28 ?_
      refine G_bald j0 (w9_k0 hw9_r0) (hi_j0 c0 c1) (hb c0 c1) d_X9_oneOfThree_31 ?_
      refine G_iload_n d_X9_oneOfThree_32 rfl 1 rfl ?_
      refine G_isub d_X9_oneOfThree_33 ?_
      refine G_istore_n (L' := [(2, .int ((iv μ (r0 + 1) j0) - l1)), (0, .ref r0), (1, .int l1)]) d_X9_oneOfThree_34 rfl (by decide) rfl ?_
      refine G_iload_n d_X9_oneOfThree_35 rfl 0 rfl ?_
      refine G_if_lt (tgt := 48) d_X9_oneOfThree_36 rfl (fun c2 => ?_) (fun c2 => ?_)
      ·
        refine G_iconst d_X9_oneOfThree_48 ic_m1 ?_
        exact G_iret rfl rfl rfl d_X9_oneOfThree_49 (hK_2 c0 c1 c2)
      ·
        refine G_iload_n d_X9_oneOfThree_39 rfl 0 rfl ?_
        refine G_iconst d_X9_oneOfThree_40 ic_3 ?_
        refine G_icmp_ge (tgt := 48) d_X9_oneOfThree_41 rfl (fun c3 => ?_) (fun c3 => ?_)
        ·
          refine G_iconst d_X9_oneOfThree_48 ic_m1 ?_
          exact G_iret rfl rfl rfl d_X9_oneOfThree_49 (hK_3 c0 c1 c2 c3)
        ·
          refine G_iload_n d_X9_oneOfThree_44 rfl 0 rfl ?_
          refine G_goto (tgt := 49) d_X9_oneOfThree_45 rfl ?_
          exact G_iret rfl rfl rfl d_X9_oneOfThree_49 (hK_4 c0 c1 c2 c3)
    ·
      refine G_iconst d_X9_oneOfThree_21 ic_m1 ?_
      exact G_iret rfl rfl rfl d_X9_oneOfThree_22 (hK_5 c0 c1)
theorem d_X4_takeVariable_0 : decode cX4_takeVariable 0 = .ok (.aload_n 1, 1) := by decide +kernel
theorem d_X4_takeVariable_1 : decode cX4_takeVariable 1 = .ok (.bipush 120, 2) := by decide +kernel
theorem d_X4_takeVariable_3 : decode cX4_takeVariable 3 = .ok (.invokevirtual 150, 3) := by decide +kernel
theorem d_X4_takeVariable_6 : decode cX4_takeVariable 6 = .ok (.istore_n 2, 1) := by decide +kernel
theorem d_X4_takeVariable_7 : decode cX4_takeVariable 7 = .ok (.iload_n 2, 1) := by decide +kernel
theorem d_X4_takeVariable_8 : decode cX4_takeVariable 8 = .ok (.ifCond .ge 12, 3) := by decide +kernel
theorem d_X4_takeVariable_11 : decode cX4_takeVariable 11 = .ok (.aload_n 0, 1) := by decide +kernel
theorem d_X4_takeVariable_12 : decode cX4_takeVariable 12 = .ok (.aload_n 1, 1) := by decide +kernel
theorem d_X4_takeVariable_13 : decode cX4_takeVariable 13 = .ok (.invokevirtual 89, 3) := by decide +kernel
theorem d_X4_takeVariable_16 : decode cX4_takeVariable 16 = .ok (.pop, 1) := by decide +kernel
theorem d_X4_takeVariable_17 : decode cX4_takeVariable 17 = .ok (.goto 7, 3) := by decide +kernel
theorem d_X4_takeVariable_20 : decode cX4_takeVariable 20 = .ok (.aload_n 1, 1) := by decide +kernel
theorem d_X4_takeVariable_21 : decode cX4_takeVariable 21 = .ok (.invokevirtual 100, 3) := by decide +kernel
theorem d_X4_takeVariable_24 : decode cX4_takeVariable 24 = .ok (.iload_n 2, 1) := by decide +kernel
theorem d_X4_takeVariable_25 : decode cX4_takeVariable 25 = .ok (.ireturn, 1) := by decide +kernel
theorem b_X4_takeVariable_0 {X : cX} {d : Nat} {μ : mM} {K : Option Value → mM → Prop} {r0 : Nat} {r1 : Nat} (hw9_r1 : WF9 μ r1) (hc_oneOfThree : Ct X (Rm d) mX9_oneOfThree [.ref r1, .int 120] μ (fun r μ2 => G X (Rm (d + 1)) mX4_takeVariable 6 [(0, .ref r0), (1, .ref r1)] (r.toList ++ []) μ2 0 0 K)) : G X (Rm (d + 1)) mX4_takeVariable 0 [(0, .ref r0), (1, .ref r1)] [] μ 0 0 K := by
  refine G_aload_n d_X4_takeVariable_0 rfl 1 rfl ?_
  refine G_bipush d_X4_takeVariable_1 bp_120 ?_
  refine G_callV (M' := mX9_oneOfThree) (R' := (Rm d)) (S := []) [.int 120] 9 (w9_kd hw9_r1) cok9 rfl ok_X9_oneOfThree ml_X4_150 pn_X9_oneOfThree (ru_Rm (by decide)) (Nat.le_of_ble_eq_true rfl) d_X4_takeVariable_3 ?_
  exact hc_oneOfThree
theorem b_X4_takeVariable_6 {X : cX} {d : Nat} {μ : mM} {K : Option Value → mM → Prop} {r0 : Nat} {r1 : Nat} {v0 : Int32} (hw9_r1 : WF9 μ r1) (hc_advance : 0 ≤ v0 → Ct X (Rm d) mX9_advance [.ref r1] μ (fun r μ2 => G X (Rm (d + 1)) mX4_takeVariable 24 [(2, .int v0)] (r.toList ++ []) μ2 0 0 K)) (hw4_r0 : WF4 μ r0) (hc_refuseToken : ¬ 0 ≤ v0 → Ct X (Rm d) mX4_refuseToken [.ref r0, .ref r1] μ (fun r μ2 => G X (Rm (d + 1)) mX4_takeVariable 16 [(2, .int v0)] (r.toList ++ []) μ2 0 0 K)) : G X (Rm (d + 1)) mX4_takeVariable 6 [(0, .ref r0), (1, .ref r1)] [.int v0] μ 0 0 K := by
  refine G_istore_n (L' := [(2, .int v0), (0, .ref r0), (1, .ref r1)]) d_X4_takeVariable_6 rfl (by decide) rfl ?_
  refine G_iload_n d_X4_takeVariable_7 rfl 0 rfl ?_
  refine G_if_ge (tgt := 20) d_X4_takeVariable_8 rfl (fun c0 => ?_) (fun c0 => ?_)
  ·
    refine G_aload_n d_X4_takeVariable_20 rfl 2 rfl ?_
    refine G_sub (L' := [(2, .int v0)]) [0] rfl ?_
    refine G_callV (M' := mX9_advance) (R' := (Rm d)) (S := []) [] 9 (w9_kd hw9_r1) cok9 rfl ok_X9_advance ml_X4_100 pn_X9_advance (ru_Rm (by decide)) (Nat.le_of_ble_eq_true rfl) d_X4_takeVariable_21 ?_
    exact (hc_advance c0)
  ·
    refine G_aload_n d_X4_takeVariable_11 rfl 1 rfl ?_
    refine G_aload_n d_X4_takeVariable_12 rfl 2 rfl ?_
    refine G_sub (L' := [(2, .int v0)]) [0] rfl ?_
    refine G_callV (M' := mX4_refuseToken) (R' := (Rm d)) (S := []) [.ref r1] 4 (w4_kd hw4_r0) cok4 rfl ok_X4_refuseToken ml_X4_89 pn_X4_refuseToken (ru_Rm (by decide)) (Nat.le_of_ble_eq_true rfl) d_X4_takeVariable_13 ?_
    exact (hc_refuseToken c0)
theorem b_X4_takeVariable_16 {X : cX} {d : Nat} {μ : mM} {K : Option Value → mM → Prop} {l2 : Int32} {v0 : Int32} (h : G X (Rm (d + 1)) mX4_takeVariable 24 [(2, .int l2)] [] μ 0 0 K) : G X (Rm (d + 1)) mX4_takeVariable 16 [(2, .int l2)] [.int v0] μ 0 0 K := by
  refine G_pop d_X4_takeVariable_16 rfl ?_
  refine G_goto (tgt := 24) d_X4_takeVariable_17 rfl ?_
  exact h
theorem b_X4_takeVariable_24 {X : cX} {d : Nat} {μ : mM} {K : Option Value → mM → Prop} {l2 : Int32} (hK : K (some (.int l2)) μ) : G X (Rm (d + 1)) mX4_takeVariable 24 [(2, .int l2)] [] μ 0 0 K := by
  refine G_iload_n d_X4_takeVariable_24 rfl 0 rfl ?_
  exact G_iret rfl rfl rfl d_X4_takeVariable_25 hK
theorem d_X9_number_0 : decode cX9_number 0 = .ok (.aload_n 0, 1) := by decide +kernel
theorem d_X9_number_1 : decode cX9_number 1 = .ok (.getfield 28, 3) := by decide +kernel
theorem d_X9_number_4 : decode cX9_number 4 = .ok (.iconst 2, 1) := by decide +kernel
theorem d_X9_number_5 : decode cX9_number 5 = .ok (.if_icmp .eq 5, 3) := by decide +kernel
theorem d_X9_number_8 : decode cX9_number 8 = .ok (.iconst (-1), 1) := by decide +kernel
theorem d_X9_number_9 : decode cX9_number 9 = .ok (.ireturn, 1) := by decide +kernel
theorem d_X9_number_10 : decode cX9_number 10 = .ok (.iconst 0, 1) := by decide +kernel
theorem d_X9_number_11 : decode cX9_number 11 = .ok (.istore_n 1, 1) := by decide +kernel
theorem d_X9_number_12 : decode cX9_number 12 = .ok (.aload_n 0, 1) := by decide +kernel
theorem d_X9_number_13 : decode cX9_number 13 = .ok (.getfield 25, 3) := by decide +kernel
theorem d_X9_number_16 : decode cX9_number 16 = .ok (.istore_n 2, 1) := by decide +kernel
theorem d_X9_number_17 : decode cX9_number 17 = .ok (.iload_n 2, 1) := by decide +kernel
theorem d_X9_number_18 : decode cX9_number 18 = .ok (.aload_n 0, 1) := by decide +kernel
theorem d_X9_number_19 : decode cX9_number 19 = .ok (.getfield 19, 3) := by decide +kernel
theorem d_X9_number_22 : decode cX9_number 22 = .ok (.if_icmp .ge 24, 3) := by decide +kernel
theorem d_X9_number_25 : decode cX9_number 25 = .ok (.iload_n 1, 1) := by decide +kernel
theorem d_X9_number_26 : decode cX9_number 26 = .ok (.bipush 10, 2) := by decide +kernel
theorem d_X9_number_28 : decode cX9_number 28 = .ok (.imul, 1) := by decide +kernel
theorem d_X9_number_29 : decode cX9_number 29 = .ok (.aload_n 0, 1) := by decide +kernel
theorem d_X9_number_30 : decode cX9_number 30 = .ok (.getfield 9, 3) := by decide +kernel
theorem d_X9_number_33 : decode cX9_number 33 = .ok (.iload_n 2, 1) := by decide +kernel
theorem d_X9_number_34 : decode cX9_number 34 = .ok (.baload, 1) := by decide +kernel
theorem d_X9_number_35 : decode cX9_number 35 = .ok (.bipush 48, 2) := by decide +kernel
theorem d_X9_number_37 : decode cX9_number 37 = .ok (.isub, 1) := by decide +kernel
theorem d_X9_number_38 : decode cX9_number 38 = .ok (.iadd, 1) := by decide +kernel
theorem d_X9_number_39 : decode cX9_number 39 = .ok (.istore_n 1, 1) := by decide +kernel
theorem d_X9_number_40 : decode cX9_number 40 = .ok (.iinc 2 1, 3) := by decide +kernel
theorem d_X9_number_43 : decode cX9_number 43 = .ok (.goto (-26), 3) := by decide +kernel
theorem d_X9_number_46 : decode cX9_number 46 = .ok (.iload_n 1, 1) := by decide +kernel
theorem d_X9_number_47 : decode cX9_number 47 = .ok (.ireturn, 1) := by decide +kernel
theorem b_X9_number_0 {X : cX} {d : Nat} {μ : mM} {K : Option Value → mM → Prop} {r0 : Nat} (hw9_r0 : WF9 μ r0) (h : (iv μ r0 2) = (2 : Int32) → G X (Rm d) mX9_number 17 [(0, .ref r0), (1, .int 0), (2, .int (iv μ r0 3))] [] μ 0 0 K) (hK : ¬ (iv μ r0 2) = (2 : Int32) → K (some (.int (-1))) μ) : G X (Rm d) mX9_number 0 [(0, .ref r0)] [] μ 0 0 K := by
  refine G_aload_n d_X9_number_0 rfl 0 rfl ?_
  refine G_getI 9 2 (w9_kd hw9_r0) cok9 (by decide) rfl fl_X9_28 d_X9_number_1 ?_
  refine G_iconst d_X9_number_4 ic_2 ?_
  refine G_icmp_eq (tgt := 10) d_X9_number_5 rfl (fun c0 => ?_) (fun c0 => ?_)
  ·
    refine G_iconst d_X9_number_10 ic_0 ?_
    refine G_istore_n (L' := [(1, .int 0), (0, .ref r0)]) d_X9_number_11 rfl (by decide) rfl ?_
    refine G_aload_n d_X9_number_12 rfl 1 rfl ?_
    refine G_getI 9 3 (w9_kd hw9_r0) cok9 (by decide) rfl fl_X9_25 d_X9_number_13 ?_
    refine G_istore_n (L' := [(2, .int (iv μ r0 3)), (1, .int 0), (0, .ref r0)]) d_X9_number_16 rfl (by decide) rfl ?_
    refine G_sub (L' := [(0, .ref r0), (1, .int 0), (2, .int (iv μ r0 3))]) [2, 1, 0] rfl ?_
    exact (h c0)
  ·
    refine G_iconst d_X9_number_8 ic_m1 ?_
    exact G_iret rfl rfl rfl d_X9_number_9 (hK c0)
theorem b_X9_number_17 {X : cX} {d : Nat} {μ : mM} {K : Option Value → mM → Prop} {r0 : Nat} {l1 : Int32} {l2 : Int32} {j0 : Nat} (hw9_r0 : WF9 μ r0) (hK : (iv μ r0 4) ≤ l2 → K (some (.int l1)) μ) (hi_j0 : ¬ (iv μ r0 4) ≤ l2 → l2 = nI j0) (hb : ¬ (iv μ r0 4) ≤ l2 → j0 < 320) (h : ¬ (iv μ r0 4) ≤ l2 → G X (Rm d) mX9_number 17 [(0, .ref r0), (1, .int ((l1 * 10) + ((iv μ (r0 + 1) j0) - 48))), (2, .int (l2 + 1))] [] μ 0 0 K) : G X (Rm d) mX9_number 17 [(0, .ref r0), (1, .int l1), (2, .int l2)] [] μ 0 0 K := by
  refine G_iload_n d_X9_number_17 rfl 2 rfl ?_
  refine G_aload_n d_X9_number_18 rfl 0 rfl ?_
  refine G_getI 9 4 (w9_kd hw9_r0) cok9 (by decide) rfl fl_X9_19 d_X9_number_19 ?_
  refine G_icmp_ge (tgt := 46) d_X9_number_22 rfl (fun c0 => ?_) (fun c0 => ?_)
  ·
    refine G_iload_n d_X9_number_46 rfl 1 rfl ?_
    exact G_iret rfl rfl rfl d_X9_number_47 (hK c0)
  ·
    refine G_iload_n d_X9_number_25 rfl 1 rfl ?_
    refine G_bipush d_X9_number_26 bp_10 ?_
    refine G_imul d_X9_number_28 ?_
    refine G_aload_n d_X9_number_29 rfl 0 rfl ?_
    refine G_getR (r := r0 + 1) 9 0 (w9_kd hw9_r0) (w9_f0 hw9_r0) cok9 (by decide) rfl fl_X9_9 d_X9_number_30 ?_
    refine G_iload_n d_X9_number_33 rfl 2 rfl ?_
    refine G_bald j0 (w9_k0 hw9_r0) (hi_j0 c0) (hb c0) d_X9_number_34 ?_
    refine G_bipush d_X9_number_35 bp_48 ?_
    refine G_isub d_X9_number_37 ?_
    refine G_iadd d_X9_number_38 ?_
    refine G_istore_n (L' := [(1, .int ((l1 * 10) + ((iv μ (r0 + 1) j0) - 48))), (0, .ref r0), (2, .int l2)]) d_X9_number_39 rfl (by decide) rfl ?_
    refine G_iinc (L' := [(2, .int (l2 + 1)), (1, .int ((l1 * 10) + ((iv μ (r0 + 1) j0) - 48))), (0, .ref r0)]) d_X9_number_40 2 rfl (incI _) (by decide) rfl ?_
    refine G_goto (tgt := 17) d_X9_number_43 rfl ?_
    refine G_sub (L' := [(0, .ref r0), (1, .int ((l1 * 10) + ((iv μ (r0 + 1) j0) - 48))), (2, .int (l2 + 1))]) [2, 1, 0] rfl ?_
    exact (h c0)
theorem d_X4_takeNodeNumber_0 : decode cX4_takeNodeNumber 0 = .ok (.aload_n 1, 1) := by decide +kernel
theorem d_X4_takeNodeNumber_1 : decode cX4_takeNodeNumber 1 = .ok (.invokevirtual 188, 3) := by decide +kernel
theorem d_X4_takeNodeNumber_4 : decode cX4_takeNodeNumber 4 = .ok (.istore_n 2, 1) := by decide +kernel
theorem d_X4_takeNodeNumber_5 : decode cX4_takeNodeNumber 5 = .ok (.iload_n 2, 1) := by decide +kernel
theorem d_X4_takeNodeNumber_6 : decode cX4_takeNodeNumber 6 = .ok (.ifCond .ge 11, 3) := by decide +kernel
theorem d_X4_takeNodeNumber_9 : decode cX4_takeNodeNumber 9 = .ok (.aload_n 0, 1) := by decide +kernel
theorem d_X4_takeNodeNumber_10 : decode cX4_takeNodeNumber 10 = .ok (.aload_n 1, 1) := by decide +kernel
theorem d_X4_takeNodeNumber_11 : decode cX4_takeNodeNumber 11 = .ok (.invokevirtual 89, 3) := by decide +kernel
theorem d_X4_takeNodeNumber_14 : decode cX4_takeNodeNumber 14 = .ok (.pop, 1) := by decide +kernel
theorem d_X4_takeNodeNumber_15 : decode cX4_takeNodeNumber 15 = .ok (.iconst (-1), 1) := by decide +kernel
theorem d_X4_takeNodeNumber_16 : decode cX4_takeNodeNumber 16 = .ok (.ireturn, 1) := by decide +kernel
theorem d_X4_takeNodeNumber_17 : decode cX4_takeNodeNumber 17 = .ok (.iload_n 2, 1) := by decide +kernel
theorem d_X4_takeNodeNumber_18 : decode cX4_takeNodeNumber 18 = .ok (.bipush 6, 2) := by decide +kernel
theorem d_X4_takeNodeNumber_20 : decode cX4_takeNodeNumber 20 = .ok (.if_icmp .lt 12, 3) := by decide +kernel
theorem d_X4_takeNodeNumber_23 : decode cX4_takeNodeNumber 23 = .ok (.aload_n 0, 1) := by decide +kernel
theorem d_X4_takeNodeNumber_24 : decode cX4_takeNodeNumber 24 = .ok (.aload_n 1, 1) := by decide +kernel
theorem d_X4_takeNodeNumber_25 : decode cX4_takeNodeNumber 25 = .ok (.iconst 3, 1) := by decide +kernel
theorem d_X4_takeNodeNumber_26 : decode cX4_takeNodeNumber 26 = .ok (.invokevirtual 55, 3) := by decide +kernel
theorem d_X4_takeNodeNumber_29 : decode cX4_takeNodeNumber 29 = .ok (.pop, 1) := by decide +kernel
theorem d_X4_takeNodeNumber_30 : decode cX4_takeNodeNumber 30 = .ok (.iconst (-1), 1) := by decide +kernel
theorem d_X4_takeNodeNumber_31 : decode cX4_takeNodeNumber 31 = .ok (.ireturn, 1) := by decide +kernel
theorem d_X4_takeNodeNumber_32 : decode cX4_takeNodeNumber 32 = .ok (.aload_n 0, 1) := by decide +kernel
theorem d_X4_takeNodeNumber_33 : decode cX4_takeNodeNumber 33 = .ok (.aload_n 0, 1) := by decide +kernel
theorem d_X4_takeNodeNumber_34 : decode cX4_takeNodeNumber 34 = .ok (.getfield 21, 3) := by decide +kernel
theorem d_X4_takeNodeNumber_37 : decode cX4_takeNodeNumber 37 = .ok (.iload_n 2, 1) := by decide +kernel
theorem d_X4_takeNodeNumber_38 : decode cX4_takeNodeNumber 38 = .ok (.invokestatic 192, 3) := by decide +kernel
theorem d_X4_takeNodeNumber_41 : decode cX4_takeNodeNumber 41 = .ok (.putfield 21, 3) := by decide +kernel
theorem d_X4_takeNodeNumber_44 : decode cX4_takeNodeNumber 44 = .ok (.aload_n 1, 1) := by decide +kernel
theorem d_X4_takeNodeNumber_45 : decode cX4_takeNodeNumber 45 = .ok (.invokevirtual 100, 3) := by decide +kernel
theorem d_X4_takeNodeNumber_48 : decode cX4_takeNodeNumber 48 = .ok (.iload_n 2, 1) := by decide +kernel
theorem d_X4_takeNodeNumber_49 : decode cX4_takeNodeNumber 49 = .ok (.ireturn, 1) := by decide +kernel
theorem b_X4_takeNodeNumber_0 {X : cX} {d : Nat} {μ : mM} {K : Option Value → mM → Prop} {r0 : Nat} {r1 : Nat} (hw9_r1 : WF9 μ r1) (hc_number : Ct X (Rm d) mX9_number [.ref r1] μ (fun r μ2 => G X (Rm (d + 1)) mX4_takeNodeNumber 4 [(0, .ref r0), (1, .ref r1)] (r.toList ++ []) μ2 0 0 K)) : G X (Rm (d + 1)) mX4_takeNodeNumber 0 [(0, .ref r0), (1, .ref r1)] [] μ 0 0 K := by
  refine G_aload_n d_X4_takeNodeNumber_0 rfl 1 rfl ?_
  refine G_callV (M' := mX9_number) (R' := (Rm d)) (S := []) [] 9 (w9_kd hw9_r1) cok9 rfl ok_X9_number ml_X4_188 pn_X9_number (ru_Rm (by decide)) (Nat.le_of_ble_eq_true rfl) d_X4_takeNodeNumber_1 ?_
  exact hc_number
theorem b_X4_takeNodeNumber_4 {X : cX} {d : Nat} {μ : mM} {K : Option Value → mM → Prop} {r0 : Nat} {r1 : Nat} {v0 : Int32} (hw4_r0 : WF4 μ r0) (hw9_r1 : WF9 μ r1) (hc_advance : 0 ≤ v0 → v0 < (6 : Int32) → Ct X (Rm d) mX9_advance [.ref r1] (wi μ r0 1 (if iv μ r0 1 < v0 then v0 else iv μ r0 1)) (fun r μ2 => G X (Rm (d + 1)) mX4_takeNodeNumber 48 [(2, .int v0)] (r.toList ++ []) μ2 0 0 K)) (hc_refuse : 0 ≤ v0 → ¬ v0 < (6 : Int32) → Ct X (Rm d) mX4_refuse [.ref r0, .ref r1, .int 3] μ (fun r μ2 => G X (Rm (d + 1)) mX4_takeNodeNumber 29 [] (r.toList ++ []) μ2 0 0 K)) (hc_refuseToken : ¬ 0 ≤ v0 → Ct X (Rm d) mX4_refuseToken [.ref r0, .ref r1] μ (fun r μ2 => G X (Rm (d + 1)) mX4_takeNodeNumber 14 [] (r.toList ++ []) μ2 0 0 K)) : G X (Rm (d + 1)) mX4_takeNodeNumber 4 [(0, .ref r0), (1, .ref r1)] [.int v0] μ 0 0 K := by
  refine G_istore_n (L' := [(2, .int v0), (0, .ref r0), (1, .ref r1)]) d_X4_takeNodeNumber_4 rfl (by decide) rfl ?_
  refine G_iload_n d_X4_takeNodeNumber_5 rfl 0 rfl ?_
  refine G_if_ge (tgt := 17) d_X4_takeNodeNumber_6 rfl (fun c0 => ?_) (fun c0 => ?_)
  ·
    refine G_iload_n d_X4_takeNodeNumber_17 rfl 0 rfl ?_
    refine G_bipush d_X4_takeNodeNumber_18 bp_6 ?_
    refine G_icmp_lt (tgt := 32) d_X4_takeNodeNumber_20 rfl (fun c1 => ?_) (fun c1 => ?_)
    ·
      refine G_aload_n d_X4_takeNodeNumber_32 rfl 1 rfl ?_
      refine G_aload_n d_X4_takeNodeNumber_33 rfl 1 rfl ?_
      refine G_getI 4 1 (w4_kd hw4_r0) cok4 (by decide) rfl fl_X4_21 d_X4_takeNodeNumber_34 ?_
      refine G_iload_n d_X4_takeNodeNumber_37 rfl 0 rfl ?_
      refine G_max ml_X4_192 rb_Rm (Nat.le_of_ble_eq_true rfl) d_X4_takeNodeNumber_38 ?_
      refine G_putI 4 1 (w4_kd hw4_r0) rfl rfl cok4 (by decide) rfl (Or.inl rfl) fl_X4_21 d_X4_takeNodeNumber_41 ?_
      refine G_aload_n d_X4_takeNodeNumber_44 rfl 2 rfl ?_
      refine G_sub (L' := [(2, .int v0)]) [0] rfl ?_
      refine G_callV (M' := mX9_advance) (R' := (Rm d)) (S := []) [] 9 (w9_kd hw9_r1) cok9 rfl ok_X9_advance ml_X4_100 pn_X9_advance (ru_Rm (by decide)) (Nat.le_of_ble_eq_true rfl) d_X4_takeNodeNumber_45 ?_
      exact (hc_advance c0 c1)
    ·
      refine G_aload_n d_X4_takeNodeNumber_23 rfl 1 rfl ?_
      refine G_aload_n d_X4_takeNodeNumber_24 rfl 2 rfl ?_
      refine G_iconst d_X4_takeNodeNumber_25 ic_3 ?_
      refine G_sub (L' := []) [] rfl ?_
      refine G_callV (M' := mX4_refuse) (R' := (Rm d)) (S := []) [.ref r1, .int 3] 4 (w4_kd hw4_r0) cok4 rfl ok_X4_refuse ml_X4_55 pn_X4_refuse (ru_Rm (by decide)) (Nat.le_of_ble_eq_true rfl) d_X4_takeNodeNumber_26 ?_
      exact (hc_refuse c0 c1)
  ·
    refine G_aload_n d_X4_takeNodeNumber_9 rfl 1 rfl ?_
    refine G_aload_n d_X4_takeNodeNumber_10 rfl 2 rfl ?_
    refine G_sub (L' := []) [] rfl ?_
    refine G_callV (M' := mX4_refuseToken) (R' := (Rm d)) (S := []) [.ref r1] 4 (w4_kd hw4_r0) cok4 rfl ok_X4_refuseToken ml_X4_89 pn_X4_refuseToken (ru_Rm (by decide)) (Nat.le_of_ble_eq_true rfl) d_X4_takeNodeNumber_11 ?_
    exact (hc_refuseToken c0)
theorem b_X4_takeNodeNumber_14 {X : cX} {d : Nat} {μ : mM} {K : Option Value → mM → Prop} {v0 : Int32} (hK : K (some (.int (-1))) μ) : G X (Rm (d + 1)) mX4_takeNodeNumber 14 [] [.int v0] μ 0 0 K := by
  refine G_pop d_X4_takeNodeNumber_14 rfl ?_
  refine G_iconst d_X4_takeNodeNumber_15 ic_m1 ?_
  exact G_iret rfl rfl rfl d_X4_takeNodeNumber_16 hK
theorem b_X4_takeNodeNumber_29 {X : cX} {d : Nat} {μ : mM} {K : Option Value → mM → Prop} {v0 : Int32} (hK : K (some (.int (-1))) μ) : G X (Rm (d + 1)) mX4_takeNodeNumber 29 [] [.int v0] μ 0 0 K := by
  refine G_pop d_X4_takeNodeNumber_29 rfl ?_
  refine G_iconst d_X4_takeNodeNumber_30 ic_m1 ?_
  exact G_iret rfl rfl rfl d_X4_takeNodeNumber_31 hK
theorem b_X4_takeNodeNumber_48 {X : cX} {d : Nat} {μ : mM} {K : Option Value → mM → Prop} {l2 : Int32} (hK : K (some (.int l2)) μ) : G X (Rm (d + 1)) mX4_takeNodeNumber 48 [(2, .int l2)] [] μ 0 0 K := by
  refine G_iload_n d_X4_takeNodeNumber_48 rfl 0 rfl ?_
  exact G_iret rfl rfl rfl d_X4_takeNodeNumber_49 hK
theorem d_X4_takeTruth_0 : decode cX4_takeTruth 0 = .ok (.aload_n 0, 1) := by decide +kernel
theorem d_X4_takeTruth_1 : decode cX4_takeTruth 1 = .ok (.ldc 198, 2) := by decide +kernel
theorem d_X4_takeTruth_3 : decode cX4_takeTruth 3 = .ok (.invokevirtual 64, 3) := by decide +kernel
theorem d_X4_takeTruth_6 : decode cX4_takeTruth 6 = .ok (.ifCond .ne 5, 3) := by decide +kernel
theorem d_X4_takeTruth_9 : decode cX4_takeTruth 9 = .ok (.iconst 2, 1) := by decide +kernel
theorem d_X4_takeTruth_10 : decode cX4_takeTruth 10 = .ok (.ireturn, 1) := by decide +kernel
theorem d_X4_takeTruth_11 : decode cX4_takeTruth 11 = .ok (.aload_n 0, 1) := by decide +kernel
theorem d_X4_takeTruth_12 : decode cX4_takeTruth 12 = .ok (.invokevirtual 100, 3) := by decide +kernel
theorem d_X4_takeTruth_15 : decode cX4_takeTruth 15 = .ok (.iconst 1, 1) := by decide +kernel
theorem d_X4_takeTruth_16 : decode cX4_takeTruth 16 = .ok (.ireturn, 1) := by decide +kernel
theorem b_X4_takeTruth_0 {X : cX} {d : Nat} {μ : mM} {K : Option Value → mM → Prop} {r0 : Nat} (hw9_r0 : WF9 μ r0) (hc_isName : Ct X (Rm (d + 4)) mX9_isName [.ref r0, .ref (X.2.2.2.2.1 3)] μ (fun r μ2 => G X (Rm (d + 5)) mX4_takeTruth 6 [(0, .ref r0)] (r.toList ++ []) μ2 0 0 K)) : G X (Rm (d + 5)) mX4_takeTruth 0 [(0, .ref r0)] [] μ 0 0 K := by
  refine G_aload_n d_X4_takeTruth_0 rfl 0 rfl ?_
  refine G_ldcS 3 (by decide) rfl rfl d_X4_takeTruth_1 ?_
  refine G_callV (M' := mX9_isName) (R' := (Rm (d + 4))) (S := []) [.ref (X.2.2.2.2.1 3)] 9 (w9_kd hw9_r0) cok9 rfl ok_X9_isName ml_X4_64 pn_X9_isName (ru_Rm (by decide)) (Nat.le_of_ble_eq_true rfl) d_X4_takeTruth_3 ?_
  exact hc_isName
theorem b_X4_takeTruth_6 {X : cX} {d : Nat} {μ : mM} {K : Option Value → mM → Prop} {r0 : Nat} {v0 : Int32} (hw9_r0 : WF9 μ r0) (hc_advance : ¬ v0 = 0 → Ct X (Rm (d + 4)) mX9_advance [.ref r0] μ (fun r μ2 => G X (Rm (d + 5)) mX4_takeTruth 15 [] (r.toList ++ []) μ2 0 0 K)) (hK : v0 = 0 → K (some (.int 2)) μ) : G X (Rm (d + 5)) mX4_takeTruth 6 [(0, .ref r0)] [.int v0] μ 0 0 K := by
  refine G_if_ne (tgt := 11) d_X4_takeTruth_6 rfl (fun c0 => ?_) (fun c0 => ?_)
  ·
    refine G_aload_n d_X4_takeTruth_11 rfl 0 rfl ?_
    refine G_sub (L' := []) [] rfl ?_
    refine G_callV (M' := mX9_advance) (R' := (Rm (d + 4))) (S := []) [] 9 (w9_kd hw9_r0) cok9 rfl ok_X9_advance ml_X4_100 pn_X9_advance (ru_Rm (by decide)) (Nat.le_of_ble_eq_true rfl) d_X4_takeTruth_12 ?_
    exact (hc_advance c0)
  ·
    refine G_iconst d_X4_takeTruth_9 ic_2 ?_
    exact G_iret rfl rfl rfl d_X4_takeTruth_10 (hK c0)
theorem b_X4_takeTruth_15 {X : cX} {d : Nat} {μ : mM} {K : Option Value → mM → Prop}  (hK : K (some (.int 1)) μ) : G X (Rm (d + 5)) mX4_takeTruth 15 [] [] μ 0 0 K := by
  refine G_iconst d_X4_takeTruth_15 ic_1 ?_
  exact G_iret rfl rfl rfl d_X4_takeTruth_16 hK
theorem d_X4_takeAt_0 : decode cX4_takeAt 0 = .ok (.aload_n 1, 1) := by decide +kernel
theorem d_X4_takeAt_1 : decode cX4_takeAt 1 = .ok (.invokevirtual 100, 3) := by decide +kernel
theorem d_X4_takeAt_4 : decode cX4_takeAt 4 = .ok (.aload_n 0, 1) := by decide +kernel
theorem d_X4_takeAt_5 : decode cX4_takeAt 5 = .ok (.aload_n 1, 1) := by decide +kernel
theorem d_X4_takeAt_6 : decode cX4_takeAt 6 = .ok (.invokevirtual 107, 3) := by decide +kernel
theorem d_X4_takeAt_9 : decode cX4_takeAt 9 = .ok (.istore_n 2, 1) := by decide +kernel
theorem d_X4_takeAt_10 : decode cX4_takeAt 10 = .ok (.iload_n 2, 1) := by decide +kernel
theorem d_X4_takeAt_11 : decode cX4_takeAt 11 = .ok (.ifCond .ge 5, 3) := by decide +kernel
theorem d_X4_takeAt_14 : decode cX4_takeAt 14 = .ok (.iconst 0, 1) := by decide +kernel
theorem d_X4_takeAt_15 : decode cX4_takeAt 15 = .ok (.ireturn, 1) := by decide +kernel
theorem d_X4_takeAt_16 : decode cX4_takeAt 16 = .ok (.aload_n 0, 1) := by decide +kernel
theorem d_X4_takeAt_17 : decode cX4_takeAt 17 = .ok (.aload_n 1, 1) := by decide +kernel
theorem d_X4_takeAt_18 : decode cX4_takeAt 18 = .ok (.invokevirtual 111, 3) := by decide +kernel
theorem d_X4_takeAt_21 : decode cX4_takeAt 21 = .ok (.istore_n 3, 1) := by decide +kernel
theorem d_X4_takeAt_22 : decode cX4_takeAt 22 = .ok (.iload_n 3, 1) := by decide +kernel
theorem d_X4_takeAt_23 : decode cX4_takeAt 23 = .ok (.ifCond .ge 5, 3) := by decide +kernel
theorem d_X4_takeAt_26 : decode cX4_takeAt 26 = .ok (.iconst 0, 1) := by decide +kernel
theorem d_X4_takeAt_27 : decode cX4_takeAt 27 = .ok (.ireturn, 1) := by decide +kernel
theorem d_X4_takeAt_28 : decode cX4_takeAt 28 = .ok (.aload_n 0, 1) := by decide +kernel
theorem d_X4_takeAt_29 : decode cX4_takeAt 29 = .ok (.getfield 12, 3) := by decide +kernel
theorem d_X4_takeAt_32 : decode cX4_takeAt 32 = .ok (.getfield 46, 3) := by decide +kernel
theorem d_X4_takeAt_35 : decode cX4_takeAt 35 = .ok (.getfield 114, 3) := by decide +kernel
theorem d_X4_takeAt_38 : decode cX4_takeAt 38 = .ok (.iload_n 2, 1) := by decide +kernel
theorem d_X4_takeAt_39 : decode cX4_takeAt 39 = .ok (.aaload, 1) := by decide +kernel
theorem d_X4_takeAt_40 : decode cX4_takeAt 40 = .ok (.iload_n 3, 1) := by decide +kernel
theorem d_X4_takeAt_41 : decode cX4_takeAt 41 = .ok (.aload_n 1, 1) := by decide +kernel
theorem d_X4_takeAt_42 : decode cX4_takeAt 42 = .ok (.invokestatic 117, 3) := by decide +kernel
theorem d_X4_takeAt_45 : decode cX4_takeAt 45 = .ok (.iastore, 1) := by decide +kernel
theorem d_X4_takeAt_46 : decode cX4_takeAt 46 = .ok (.aload_n 0, 1) := by decide +kernel
theorem d_X4_takeAt_47 : decode cX4_takeAt 47 = .ok (.aload_n 1, 1) := by decide +kernel
theorem d_X4_takeAt_48 : decode cX4_takeAt 48 = .ok (.bipush 59, 2) := by decide +kernel
theorem d_X4_takeAt_50 : decode cX4_takeAt 50 = .ok (.invokevirtual 103, 3) := by decide +kernel
theorem d_X4_takeAt_53 : decode cX4_takeAt 53 = .ok (.ireturn, 1) := by decide +kernel
theorem b_X4_takeAt_0 {X : cX} {d : Nat} {μ : mM} {K : Option Value → mM → Prop} {r0 : Nat} {r1 : Nat} (hw9_r1 : WF9 μ r1) (hc_advance : Ct X (Rm (d + 5)) mX9_advance [.ref r1] μ (fun r μ2 => G X (Rm (d + 6)) mX4_takeAt 4 [(0, .ref r0), (1, .ref r1)] (r.toList ++ []) μ2 0 0 K)) : G X (Rm (d + 6)) mX4_takeAt 0 [(0, .ref r0), (1, .ref r1)] [] μ 0 0 K := by
  refine G_aload_n d_X4_takeAt_0 rfl 1 rfl ?_
  refine G_callV (M' := mX9_advance) (R' := (Rm (d + 5))) (S := []) [] 9 (w9_kd hw9_r1) cok9 rfl ok_X9_advance ml_X4_100 pn_X9_advance (ru_Rm (by decide)) (Nat.le_of_ble_eq_true rfl) d_X4_takeAt_1 ?_
  exact hc_advance
theorem b_X4_takeAt_4 {X : cX} {d : Nat} {μ : mM} {K : Option Value → mM → Prop} {r0 : Nat} {r1 : Nat} (hw4_r0 : WF4 μ r0) (hc_takeVariable : Ct X (Rm (d + 5)) mX4_takeVariable [.ref r0, .ref r1] μ (fun r μ2 => G X (Rm (d + 6)) mX4_takeAt 9 [(0, .ref r0), (1, .ref r1)] (r.toList ++ []) μ2 0 0 K)) : G X (Rm (d + 6)) mX4_takeAt 4 [(0, .ref r0), (1, .ref r1)] [] μ 0 0 K := by
  refine G_aload_n d_X4_takeAt_4 rfl 0 rfl ?_
  refine G_aload_n d_X4_takeAt_5 rfl 1 rfl ?_
  refine G_callV (M' := mX4_takeVariable) (R' := (Rm (d + 5))) (S := []) [.ref r1] 4 (w4_kd hw4_r0) cok4 rfl ok_X4_takeVariable ml_X4_107 pn_X4_takeVariable (ru_Rm (by decide)) (Nat.le_of_ble_eq_true rfl) d_X4_takeAt_6 ?_
  exact hc_takeVariable
theorem b_X4_takeAt_9 {X : cX} {d : Nat} {μ : mM} {K : Option Value → mM → Prop} {r0 : Nat} {r1 : Nat} {v0 : Int32} (hw4_r0 : WF4 μ r0) (hc_takeNodeNumber : 0 ≤ v0 → Ct X (Rm (d + 5)) mX4_takeNodeNumber [.ref r0, .ref r1] μ (fun r μ2 => G X (Rm (d + 6)) mX4_takeAt 21 [(0, .ref r0), (1, .ref r1), (2, .int v0)] (r.toList ++ []) μ2 0 0 K)) (hK : ¬ 0 ≤ v0 → K (some (.int 0)) μ) : G X (Rm (d + 6)) mX4_takeAt 9 [(0, .ref r0), (1, .ref r1)] [.int v0] μ 0 0 K := by
  refine G_istore_n (L' := [(2, .int v0), (0, .ref r0), (1, .ref r1)]) d_X4_takeAt_9 rfl (by decide) rfl ?_
  refine G_iload_n d_X4_takeAt_10 rfl 0 rfl ?_
  refine G_if_ge (tgt := 16) d_X4_takeAt_11 rfl (fun c0 => ?_) (fun c0 => ?_)
  ·
    refine G_aload_n d_X4_takeAt_16 rfl 1 rfl ?_
    refine G_aload_n d_X4_takeAt_17 rfl 2 rfl ?_
    refine G_sub (L' := [(0, .ref r0), (1, .ref r1), (2, .int v0)]) [1, 2, 0] rfl ?_
    refine G_callV (M' := mX4_takeNodeNumber) (R' := (Rm (d + 5))) (S := []) [.ref r1] 4 (w4_kd hw4_r0) cok4 rfl ok_X4_takeNodeNumber ml_X4_111 pn_X4_takeNodeNumber (ru_Rm (by decide)) (Nat.le_of_ble_eq_true rfl) d_X4_takeAt_18 ?_
    exact (hc_takeNodeNumber c0)
  ·
    refine G_iconst d_X4_takeAt_14 ic_0 ?_
    exact G_zret rfl rfl rfl rfl d_X4_takeAt_15 (hK c0)
theorem b_X4_takeAt_21 {X : cX} {d : Nat} {μ : mM} {K : Option Value → mM → Prop} {r0 : Nat} {r1 : Nat} {l2 : Int32} {v0 : Int32} {p0 : Nat} {j0 : Nat} (hw4_r0 : WF4 μ r0) (hr_p0 : rv μ r0 0 = some p0) (hw10_p0 : WF10 μ p0) (hw5_p01 : WF5 μ (p0 + 1)) (hi_j0 : 0 ≤ v0 → l2 = nI j0) (hb : 0 ≤ v0 → j0 < 3) (hc_takeTruth : 0 ≤ v0 → Ct X (Rm (d + 5)) mX4_takeTruth [.ref r1] μ (fun r μ2 => G X (Rm (d + 6)) mX4_takeAt 45 [(0, .ref r0), (1, .ref r1)] (r.toList ++ [.int v0, .ref (p0 + 1 + 3 + j0)]) μ2 0 0 K)) (hK : ¬ 0 ≤ v0 → K (some (.int 0)) μ) : G X (Rm (d + 6)) mX4_takeAt 21 [(0, .ref r0), (1, .ref r1), (2, .int l2)] [.int v0] μ 0 0 K := by
  refine G_istore_n (L' := [(3, .int v0), (0, .ref r0), (1, .ref r1), (2, .int l2)]) d_X4_takeAt_21 rfl (by decide) rfl ?_
  refine G_iload_n d_X4_takeAt_22 rfl 0 rfl ?_
  refine G_if_ge (tgt := 28) d_X4_takeAt_23 rfl (fun c0 => ?_) (fun c0 => ?_)
  ·
    refine G_aload_n d_X4_takeAt_28 rfl 1 rfl ?_
    refine G_getR (r := p0) 4 0 (w4_kd hw4_r0) hr_p0 cok4 (by decide) rfl fl_X4_12 d_X4_takeAt_29 ?_
    refine G_getR (r := p0 + 1) 10 0 (w10_kd hw10_p0) (w10_f0 hw10_p0) cok10 (by decide) rfl fl_X4_46 d_X4_takeAt_32 ?_
    refine G_getR (r := p0 + 1 + 2) 5 2 (w5_kd hw5_p01) (w5_f2 hw5_p01) cok5 (by decide) rfl fl_X4_114 d_X4_takeAt_35 ?_
    refine G_iload_n d_X4_takeAt_38 rfl 3 rfl ?_
    refine G_aaldA (r := p0 + 1 + 3 + j0) j0 (w5_k2 hw5_p01) (hi_j0 c0) (hb c0) (w5_r2 hw5_p01 j0 (hb c0)) d_X4_takeAt_39 ?_
    refine G_iload_n d_X4_takeAt_40 rfl 0 rfl ?_
    refine G_aload_n d_X4_takeAt_41 rfl 2 rfl ?_
    refine G_sub (L' := [(0, .ref r0), (1, .ref r1)]) [1, 2] rfl ?_
    refine G_callS (M' := mX4_takeTruth) (R' := (Rm (d + 5))) (S := [.int v0, .ref (p0 + 1 + 3 + j0)]) [.ref r1] ok_X4_takeTruth ml_X4_117 pn_X4_takeTruth (ru_Rm (by decide)) (Nat.le_of_ble_eq_true rfl) d_X4_takeAt_42 ?_
    exact (hc_takeTruth c0)
  ·
    refine G_iconst d_X4_takeAt_26 ic_0 ?_
    exact G_zret rfl rfl rfl rfl d_X4_takeAt_27 (hK c0)
theorem b_X4_takeAt_45 {X : cX} {d : Nat} {μ : mM} {K : Option Value → mM → Prop} {r0 : Nat} {r1 : Nat} {q0 : Nat} {v1 : Int32} {v2 : Int32} {n0 : Nat} {j0 : Nat} (hk_q0 : kd μ q0 = (1, n0)) (hi_j0 : v1 = nI j0) (hb : j0 < n0) (hw4_r0 : WF4 μ r0) (hc_takeSign : Ct X (Rm (d + 5)) mX4_takeSign [.ref r0, .ref r1, .int 59] (wi μ q0 j0 v2) (fun r μ2 => G X (Rm (d + 6)) mX4_takeAt 53 [] (r.toList ++ []) μ2 0 0 K)) : G X (Rm (d + 6)) mX4_takeAt 45 [(0, .ref r0), (1, .ref r1)] [.int v2, .int v1, .ref q0] μ 0 0 K := by
  refine G_iast j0 hk_q0 hi_j0 hb d_X4_takeAt_45 ?_
  refine G_aload_n d_X4_takeAt_46 rfl 0 rfl ?_
  refine G_aload_n d_X4_takeAt_47 rfl 1 rfl ?_
  refine G_bipush d_X4_takeAt_48 bp_59 ?_
  refine G_sub (L' := []) [] rfl ?_
  refine G_callV (M' := mX4_takeSign) (R' := (Rm (d + 5))) (S := []) [.ref r1, .int 59] 4 (w4_kd hw4_r0) cok4 rfl ok_X4_takeSign ml_X4_103 pn_X4_takeSign (ru_Rm (by decide)) (Nat.le_of_ble_eq_true rfl) d_X4_takeAt_50 ?_
  exact hc_takeSign
theorem b_X4_takeAt_53 {X : cX} {d : Nat} {μ : mM} {K : Option Value → mM → Prop} {v0 : Int32} (hK : K (some (.int v0)) μ) (hz : v0 = 0 ∨ v0 = 1) : G X (Rm (d + 6)) mX4_takeAt 53 [] [.int v0] μ 0 0 K := by
  exact G_zret rfl (nar_b hz) rfl rfl d_X4_takeAt_53 hK
theorem d_X4_takeNext_0 : decode cX4_takeNext 0 = .ok (.aload_n 1, 1) := by decide +kernel
theorem d_X4_takeNext_1 : decode cX4_takeNext 1 = .ok (.invokevirtual 100, 3) := by decide +kernel
theorem d_X4_takeNext_4 : decode cX4_takeNext 4 = .ok (.aload_n 0, 1) := by decide +kernel
theorem d_X4_takeNext_5 : decode cX4_takeNext 5 = .ok (.aload_n 1, 1) := by decide +kernel
theorem d_X4_takeNext_6 : decode cX4_takeNext 6 = .ok (.invokevirtual 111, 3) := by decide +kernel
theorem d_X4_takeNext_9 : decode cX4_takeNext 9 = .ok (.istore_n 2, 1) := by decide +kernel
theorem d_X4_takeNext_10 : decode cX4_takeNext 10 = .ok (.iload_n 2, 1) := by decide +kernel
theorem d_X4_takeNext_11 : decode cX4_takeNext 11 = .ok (.ifCond .ge 5, 3) := by decide +kernel
theorem d_X4_takeNext_14 : decode cX4_takeNext 14 = .ok (.iconst 0, 1) := by decide +kernel
theorem d_X4_takeNext_15 : decode cX4_takeNext 15 = .ok (.ireturn, 1) := by decide +kernel
theorem d_X4_takeNext_16 : decode cX4_takeNext 16 = .ok (.aload_n 0, 1) := by decide +kernel
theorem d_X4_takeNext_17 : decode cX4_takeNext 17 = .ok (.aload_n 1, 1) := by decide +kernel
theorem d_X4_takeNext_18 : decode cX4_takeNext 18 = .ok (.invokevirtual 111, 3) := by decide +kernel
theorem d_X4_takeNext_21 : decode cX4_takeNext 21 = .ok (.istore_n 3, 1) := by decide +kernel
theorem d_X4_takeNext_22 : decode cX4_takeNext 22 = .ok (.iload_n 3, 1) := by decide +kernel
theorem d_X4_takeNext_23 : decode cX4_takeNext 23 = .ok (.ifCond .ge 5, 3) := by decide +kernel
theorem d_X4_takeNext_26 : decode cX4_takeNext 26 = .ok (.iconst 0, 1) := by decide +kernel
theorem d_X4_takeNext_27 : decode cX4_takeNext 27 = .ok (.ireturn, 1) := by decide +kernel
theorem d_X4_takeNext_28 : decode cX4_takeNext 28 = .ok (.aload_n 0, 1) := by decide +kernel
theorem d_X4_takeNext_29 : decode cX4_takeNext 29 = .ok (.getfield 12, 3) := by decide +kernel
theorem d_X4_takeNext_32 : decode cX4_takeNext 32 = .ok (.getfield 46, 3) := by decide +kernel
theorem d_X4_takeNext_35 : decode cX4_takeNext 35 = .ok (.getfield 120, 3) := by decide +kernel
theorem d_X4_takeNext_38 : decode cX4_takeNext 38 = .ok (.iload_n 2, 1) := by decide +kernel
theorem d_X4_takeNext_39 : decode cX4_takeNext 39 = .ok (.aaload, 1) := by decide +kernel
theorem d_X4_takeNext_40 : decode cX4_takeNext 40 = .ok (.iload_n 3, 1) := by decide +kernel
theorem d_X4_takeNext_41 : decode cX4_takeNext 41 = .ok (.aload_n 1, 1) := by decide +kernel
theorem d_X4_takeNext_42 : decode cX4_takeNext 42 = .ok (.invokestatic 117, 3) := by decide +kernel
theorem d_X4_takeNext_45 : decode cX4_takeNext 45 = .ok (.iastore, 1) := by decide +kernel
theorem d_X4_takeNext_46 : decode cX4_takeNext 46 = .ok (.aload_n 0, 1) := by decide +kernel
theorem d_X4_takeNext_47 : decode cX4_takeNext 47 = .ok (.aload_n 1, 1) := by decide +kernel
theorem d_X4_takeNext_48 : decode cX4_takeNext 48 = .ok (.bipush 59, 2) := by decide +kernel
theorem d_X4_takeNext_50 : decode cX4_takeNext 50 = .ok (.invokevirtual 103, 3) := by decide +kernel
theorem d_X4_takeNext_53 : decode cX4_takeNext 53 = .ok (.ireturn, 1) := by decide +kernel
theorem b_X4_takeNext_0 {X : cX} {d : Nat} {μ : mM} {K : Option Value → mM → Prop} {r0 : Nat} {r1 : Nat} (hw9_r1 : WF9 μ r1) (hc_advance : Ct X (Rm (d + 5)) mX9_advance [.ref r1] μ (fun r μ2 => G X (Rm (d + 6)) mX4_takeNext 4 [(0, .ref r0), (1, .ref r1)] (r.toList ++ []) μ2 0 0 K)) : G X (Rm (d + 6)) mX4_takeNext 0 [(0, .ref r0), (1, .ref r1)] [] μ 0 0 K := by
  refine G_aload_n d_X4_takeNext_0 rfl 1 rfl ?_
  refine G_callV (M' := mX9_advance) (R' := (Rm (d + 5))) (S := []) [] 9 (w9_kd hw9_r1) cok9 rfl ok_X9_advance ml_X4_100 pn_X9_advance (ru_Rm (by decide)) (Nat.le_of_ble_eq_true rfl) d_X4_takeNext_1 ?_
  exact hc_advance
theorem b_X4_takeNext_4 {X : cX} {d : Nat} {μ : mM} {K : Option Value → mM → Prop} {r0 : Nat} {r1 : Nat} (hw4_r0 : WF4 μ r0) (hc_takeNodeNumber : Ct X (Rm (d + 5)) mX4_takeNodeNumber [.ref r0, .ref r1] μ (fun r μ2 => G X (Rm (d + 6)) mX4_takeNext 9 [(0, .ref r0), (1, .ref r1)] (r.toList ++ []) μ2 0 0 K)) : G X (Rm (d + 6)) mX4_takeNext 4 [(0, .ref r0), (1, .ref r1)] [] μ 0 0 K := by
  refine G_aload_n d_X4_takeNext_4 rfl 0 rfl ?_
  refine G_aload_n d_X4_takeNext_5 rfl 1 rfl ?_
  refine G_callV (M' := mX4_takeNodeNumber) (R' := (Rm (d + 5))) (S := []) [.ref r1] 4 (w4_kd hw4_r0) cok4 rfl ok_X4_takeNodeNumber ml_X4_111 pn_X4_takeNodeNumber (ru_Rm (by decide)) (Nat.le_of_ble_eq_true rfl) d_X4_takeNext_6 ?_
  exact hc_takeNodeNumber
theorem b_X4_takeNext_9 {X : cX} {d : Nat} {μ : mM} {K : Option Value → mM → Prop} {r0 : Nat} {r1 : Nat} {v0 : Int32} (hw4_r0 : WF4 μ r0) (hc_takeNodeNumber : 0 ≤ v0 → Ct X (Rm (d + 5)) mX4_takeNodeNumber [.ref r0, .ref r1] μ (fun r μ2 => G X (Rm (d + 6)) mX4_takeNext 21 [(0, .ref r0), (1, .ref r1), (2, .int v0)] (r.toList ++ []) μ2 0 0 K)) (hK : ¬ 0 ≤ v0 → K (some (.int 0)) μ) : G X (Rm (d + 6)) mX4_takeNext 9 [(0, .ref r0), (1, .ref r1)] [.int v0] μ 0 0 K := by
  refine G_istore_n (L' := [(2, .int v0), (0, .ref r0), (1, .ref r1)]) d_X4_takeNext_9 rfl (by decide) rfl ?_
  refine G_iload_n d_X4_takeNext_10 rfl 0 rfl ?_
  refine G_if_ge (tgt := 16) d_X4_takeNext_11 rfl (fun c0 => ?_) (fun c0 => ?_)
  ·
    refine G_aload_n d_X4_takeNext_16 rfl 1 rfl ?_
    refine G_aload_n d_X4_takeNext_17 rfl 2 rfl ?_
    refine G_sub (L' := [(0, .ref r0), (1, .ref r1), (2, .int v0)]) [1, 2, 0] rfl ?_
    refine G_callV (M' := mX4_takeNodeNumber) (R' := (Rm (d + 5))) (S := []) [.ref r1] 4 (w4_kd hw4_r0) cok4 rfl ok_X4_takeNodeNumber ml_X4_111 pn_X4_takeNodeNumber (ru_Rm (by decide)) (Nat.le_of_ble_eq_true rfl) d_X4_takeNext_18 ?_
    exact (hc_takeNodeNumber c0)
  ·
    refine G_iconst d_X4_takeNext_14 ic_0 ?_
    exact G_zret rfl rfl rfl rfl d_X4_takeNext_15 (hK c0)
theorem b_X4_takeNext_21 {X : cX} {d : Nat} {μ : mM} {K : Option Value → mM → Prop} {r0 : Nat} {r1 : Nat} {l2 : Int32} {v0 : Int32} {p0 : Nat} {j0 : Nat} (hw4_r0 : WF4 μ r0) (hr_p0 : rv μ r0 0 = some p0) (hw10_p0 : WF10 μ p0) (hw5_p01 : WF5 μ (p0 + 1)) (hi_j0 : 0 ≤ v0 → l2 = nI j0) (hb : 0 ≤ v0 → j0 < 6) (hc_takeTruth : 0 ≤ v0 → Ct X (Rm (d + 5)) mX4_takeTruth [.ref r1] μ (fun r μ2 => G X (Rm (d + 6)) mX4_takeNext 45 [(0, .ref r0), (1, .ref r1)] (r.toList ++ [.int v0, .ref (p0 + 1 + 7 + j0)]) μ2 0 0 K)) (hK : ¬ 0 ≤ v0 → K (some (.int 0)) μ) : G X (Rm (d + 6)) mX4_takeNext 21 [(0, .ref r0), (1, .ref r1), (2, .int l2)] [.int v0] μ 0 0 K := by
  refine G_istore_n (L' := [(3, .int v0), (0, .ref r0), (1, .ref r1), (2, .int l2)]) d_X4_takeNext_21 rfl (by decide) rfl ?_
  refine G_iload_n d_X4_takeNext_22 rfl 0 rfl ?_
  refine G_if_ge (tgt := 28) d_X4_takeNext_23 rfl (fun c0 => ?_) (fun c0 => ?_)
  ·
    refine G_aload_n d_X4_takeNext_28 rfl 1 rfl ?_
    refine G_getR (r := p0) 4 0 (w4_kd hw4_r0) hr_p0 cok4 (by decide) rfl fl_X4_12 d_X4_takeNext_29 ?_
    refine G_getR (r := p0 + 1) 10 0 (w10_kd hw10_p0) (w10_f0 hw10_p0) cok10 (by decide) rfl fl_X4_46 d_X4_takeNext_32 ?_
    refine G_getR (r := p0 + 1 + 6) 5 3 (w5_kd hw5_p01) (w5_f3 hw5_p01) cok5 (by decide) rfl fl_X4_120 d_X4_takeNext_35 ?_
    refine G_iload_n d_X4_takeNext_38 rfl 3 rfl ?_
    refine G_aaldA (r := p0 + 1 + 7 + j0) j0 (w5_k3 hw5_p01) (hi_j0 c0) (hb c0) (w5_r3 hw5_p01 j0 (hb c0)) d_X4_takeNext_39 ?_
    refine G_iload_n d_X4_takeNext_40 rfl 0 rfl ?_
    refine G_aload_n d_X4_takeNext_41 rfl 2 rfl ?_
    refine G_sub (L' := [(0, .ref r0), (1, .ref r1)]) [1, 2] rfl ?_
    refine G_callS (M' := mX4_takeTruth) (R' := (Rm (d + 5))) (S := [.int v0, .ref (p0 + 1 + 7 + j0)]) [.ref r1] ok_X4_takeTruth ml_X4_117 pn_X4_takeTruth (ru_Rm (by decide)) (Nat.le_of_ble_eq_true rfl) d_X4_takeNext_42 ?_
    exact (hc_takeTruth c0)
  ·
    refine G_iconst d_X4_takeNext_26 ic_0 ?_
    exact G_zret rfl rfl rfl rfl d_X4_takeNext_27 (hK c0)
theorem b_X4_takeNext_45 {X : cX} {d : Nat} {μ : mM} {K : Option Value → mM → Prop} {r0 : Nat} {r1 : Nat} {q0 : Nat} {v1 : Int32} {v2 : Int32} {n0 : Nat} {j0 : Nat} (hk_q0 : kd μ q0 = (1, n0)) (hi_j0 : v1 = nI j0) (hb : j0 < n0) (hw4_r0 : WF4 μ r0) (hc_takeSign : Ct X (Rm (d + 5)) mX4_takeSign [.ref r0, .ref r1, .int 59] (wi μ q0 j0 v2) (fun r μ2 => G X (Rm (d + 6)) mX4_takeNext 53 [] (r.toList ++ []) μ2 0 0 K)) : G X (Rm (d + 6)) mX4_takeNext 45 [(0, .ref r0), (1, .ref r1)] [.int v2, .int v1, .ref q0] μ 0 0 K := by
  refine G_iast j0 hk_q0 hi_j0 hb d_X4_takeNext_45 ?_
  refine G_aload_n d_X4_takeNext_46 rfl 0 rfl ?_
  refine G_aload_n d_X4_takeNext_47 rfl 1 rfl ?_
  refine G_bipush d_X4_takeNext_48 bp_59 ?_
  refine G_sub (L' := []) [] rfl ?_
  refine G_callV (M' := mX4_takeSign) (R' := (Rm (d + 5))) (S := []) [.ref r1, .int 59] 4 (w4_kd hw4_r0) cok4 rfl ok_X4_takeSign ml_X4_103 pn_X4_takeSign (ru_Rm (by decide)) (Nat.le_of_ble_eq_true rfl) d_X4_takeNext_50 ?_
  exact hc_takeSign
theorem b_X4_takeNext_53 {X : cX} {d : Nat} {μ : mM} {K : Option Value → mM → Prop} {v0 : Int32} (hK : K (some (.int v0)) μ) (hz : v0 = 0 ∨ v0 = 1) : G X (Rm (d + 6)) mX4_takeNext 53 [] [.int v0] μ 0 0 K := by
  exact G_zret rfl (nar_b hz) rfl rfl d_X4_takeNext_53 hK
