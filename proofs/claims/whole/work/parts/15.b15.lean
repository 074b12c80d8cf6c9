theorem d_X12_grouped_0 : decode cX12_grouped 0 = .ok (.iconst 0, 1) := by decide +kernel
theorem d_X12_grouped_1 : decode cX12_grouped 1 = .ok (.istore_n 2, 1) := by decide +kernel
theorem d_X12_grouped_2 : decode cX12_grouped 2 = .ok (.iconst 0, 1) := by decide +kernel
theorem d_X12_grouped_3 : decode cX12_grouped 3 = .ok (.istore_n 3, 1) := by decide +kernel
theorem d_X12_grouped_4 : decode cX12_grouped 4 = .ok (.iload_n 3, 1) := by decide +kernel
theorem d_X12_grouped_5 : decode cX12_grouped 5 = .ok (.aload_n 0, 1) := by decide +kernel
theorem d_X12_grouped_6 : decode cX12_grouped 6 = .ok (.invokevirtual 169, 3) := by decide +kernel
theorem d_X12_grouped_9 : decode cX12_grouped 9 = .ok (.if_icmp .ge 93, 3) := by decide +kernel
theorem d_X12_grouped_12 : decode cX12_grouped 12 = .ok (.aload_n 0, 1) := by decide +kernel
theorem d_X12_grouped_13 : decode cX12_grouped 13 = .ok (.getfield 37, 3) := by decide +kernel
theorem d_X12_grouped_16 : decode cX12_grouped 16 = .ok (.iload_n 3, 1) := by decide +kernel
theorem d_X12_grouped_17 : decode cX12_grouped 17 = .ok (.bipush (-4), 2) := by decide +kernel
theorem d_X12_grouped_19 : decode cX12_grouped 19 = .ok (.iastore, 1) := by decide +kernel
theorem d_X12_grouped_20 : decode cX12_grouped 20 = .ok (.iconst 0, 1) := by decide +kernel
theorem d_X12_grouped_21 : decode cX12_grouped 21 = .ok (.istore 4, 2) := by decide +kernel
theorem d_X12_grouped_23 : decode cX12_grouped 23 = .ok (.iload 4, 2) := by decide +kernel
theorem d_X12_grouped_25 : decode cX12_grouped 25 = .ok (.iload_n 3, 1) := by decide +kernel
theorem d_X12_grouped_26 : decode cX12_grouped 26 = .ok (.if_icmp .ge 49, 3) := by decide +kernel
theorem d_X12_grouped_29 : decode cX12_grouped 29 = .ok (.aload_n 0, 1) := by decide +kernel
theorem d_X12_grouped_30 : decode cX12_grouped 30 = .ok (.getfield 37, 3) := by decide +kernel
theorem d_X12_grouped_33 : decode cX12_grouped 33 = .ok (.iload_n 3, 1) := by decide +kernel
theorem d_X12_grouped_34 : decode cX12_grouped 34 = .ok (.iaload, 1) := by decide +kernel
theorem d_X12_grouped_35 : decode cX12_grouped 35 = .ok (.bipush (-4), 2) := by decide +kernel
theorem d_X12_grouped_37 : decode cX12_grouped 37 = .ok (.if_icmp .ne 38, 3) := by decide +kernel
theorem d_X12_grouped_40 : decode cX12_grouped 40 = .ok (.aload_n 0, 1) := by decide +kernel
theorem d_X12_grouped_41 : decode cX12_grouped 41 = .ok (.getfield 37, 3) := by decide +kernel
theorem d_X12_grouped_44 : decode cX12_grouped 44 = .ok (.iload_n 3, 1) := by decide +kernel
theorem d_X12_grouped_45 : decode cX12_grouped 45 = .ok (.aload_n 0, 1) := by decide +kernel
theorem d_X12_grouped_46 : decode cX12_grouped 46 = .ok (.iload_n 3, 1) := by decide +kernel
theorem d_X12_grouped_47 : decode cX12_grouped 47 = .ok (.iload 4, 2) := by decide +kernel
theorem d_X12_grouped_49 : decode cX12_grouped 49 = .ok (.iload_n 1, 1) := by decide +kernel
theorem d_X12_grouped_50 : decode cX12_grouped 50 = .ok (.invokevirtual 263, 3) := by decide +kernel
theorem d_X12_grouped_53 : decode cX12_grouped 53 = .ok (.ifCond .eq 13, 3) := by decide +kernel
theorem d_X12_grouped_56 : decode cX12_grouped 56 = .ok (.aload_n 0, 1) := by decide +kernel
theorem d_X12_grouped_57 : decode cX12_grouped 57 = .ok (.getfield 37, 3) := by decide +kernel
theorem d_X12_grouped_60 : decode cX12_grouped 60 = .ok (.iload 4, 2) := by decide +kernel
theorem d_X12_grouped_62 : decode cX12_grouped 62 = .ok (.iaload, 1) := by decide +kernel
theorem d_X12_grouped_63 : decode cX12_grouped 63 = .ok (.goto 5, 3) := by decide +kernel
theorem d_X12_grouped_66 : decode cX12_grouped 66 = .ok (.bipush (-4), 2) := by decide +kernel
theorem d_X12_grouped_68 : decode cX12_grouped 68 = .ok (.iastore, 1) := by decide +kernel
theorem d_X12_grouped_69 : decode cX12_grouped 69 = .ok (.iinc 4 1, 3) := by decide +kernel
theorem d_X12_grouped_72 : decode cX12_grouped 72 = .ok (.goto (-49), 3) := by decide +kernel
theorem d_X12_grouped_75 : decode cX12_grouped 75 = .ok (.aload_n 0, 1) := by decide +kernel
theorem d_X12_grouped_76 : decode cX12_grouped 76 = .ok (.getfield 37, 3) := by decide +kernel
theorem d_X12_grouped_79 : decode cX12_grouped 79 = .ok (.iload_n 3, 1) := by decide +kernel
theorem d_X12_grouped_80 : decode cX12_grouped 80 = .ok (.iaload, 1) := by decide +kernel
theorem d_X12_grouped_81 : decode cX12_grouped 81 = .ok (.bipush (-4), 2) := by decide +kernel
theorem d_X12_grouped_83 : decode cX12_grouped 83 = .ok (.if_icmp .ne 13, 3) := by decide +kernel
theorem d_X12_grouped_86 : decode cX12_grouped 86 = .ok (.aload_n 0, 1) := by decide +kernel
theorem d_X12_grouped_87 : decode cX12_grouped 87 = .ok (.getfield 37, 3) := by decide +kernel
theorem d_X12_grouped_90 : decode cX12_grouped 90 = .ok (.iload_n 3, 1) := by decide +kernel
theorem d_X12_grouped_91 : decode cX12_grouped 91 = .ok (.iload_n 2, 1) := by decide +kernel
theorem d_X12_grouped_92 : decode cX12_grouped 92 = .ok (.iastore, 1) := by decide +kernel
theorem d_X12_grouped_93 : decode cX12_grouped 93 = .ok (.iinc 2 1, 3) := by decide +kernel
theorem d_X12_grouped_96 : decode cX12_grouped 96 = .ok (.iinc 3 1, 3) := by decide +kernel
theorem d_X12_grouped_99 : decode cX12_grouped 99 = .ok (.goto (-95), 3) := by decide +kernel
theorem d_X12_grouped_102 : decode cX12_grouped 102 = .ok (.iload_n 2, 1) := by decide +kernel
theorem d_X12_grouped_103 : decode cX12_grouped 103 = .ok (.ireturn, 1) := by decide +kernel
theorem b_X12_grouped_0 {X : cX} {d : Nat} {μ : mM} {K : Option Value → mM → Prop} {r0 : Nat} {l1 : Int32} (h : G X (Rm (d + 2)) mX12_grouped 4 [(0, .ref r0), (1, .int l1), (2, .int (nI 0)), (3, .int (nI 0))] [] μ 0 0 K) : G X (Rm (d + 2)) mX12_grouped 0 [(0, .ref r0), (1, .int l1)] [] μ 0 0 K := by
  refine G_iconst d_X12_grouped_0 ic_0 ?_
  refine G_istore_n (L' := [(2, .int (nI 0)), (0, .ref r0), (1, .int l1)]) d_X12_grouped_1 rfl (by decide) rfl ?_
  refine G_iconst d_X12_grouped_2 ic_0 ?_
  refine G_istore_n (L' := [(3, .int (nI 0)), (2, .int (nI 0)), (0, .ref r0), (1, .int l1)]) d_X12_grouped_3 rfl (by decide) rfl ?_
  refine G_sub (L' := [(0, .ref r0), (1, .int l1), (2, .int (nI 0)), (3, .int (nI 0))]) [2, 3, 1, 0] rfl ?_
  exact h
theorem b_X12_grouped_4 {X : cX} {d : Nat} {μ : mM} {K : Option Value → mM → Prop} {r0 : Nat} {l1 : Int32} {l2 : Int32} {i3 : Nat} (hw12_r0 : WF12 μ r0) (hK : (e_X12_nodes μ r0) ≤ (nI i3) → K (some (.int l2)) μ) (hb : ¬ (e_X12_nodes μ r0) ≤ (nI i3) → i3 < 6) (h : ¬ (e_X12_nodes μ r0) ≤ (nI i3) → G X (Rm (d + 2)) mX12_grouped 23 [(0, .ref r0), (1, .int l1), (2, .int l2), (3, .int (nI i3)), (4, .int (nI 0))] [] (wi μ (r0 + 10) i3 (-4)) 0 0 K) : G X (Rm (d + 2)) mX12_grouped 4 [(0, .ref r0), (1, .int l1), (2, .int l2), (3, .int (nI i3))] [] μ 0 0 K := by
  refine G_iload_n d_X12_grouped_4 rfl 3 rfl ?_
  refine G_aload_n d_X12_grouped_5 rfl 0 rfl ?_
  refine G_callV (M' := mX12_nodes) (R' := (Rm (d + 1))) (S := [.int (nI i3)]) [] 12 (w12_kd hw12_r0) cok12 rfl ok_X12_nodes ml_X12_169 pn_X12_nodes (ru_Rm (by decide)) (Nat.le_of_ble_eq_true rfl) d_X12_grouped_6 (s_X12_nodes (μ := μ)  hw12_r0 ?_)
  show G X (Rm (d + 2)) mX12_grouped 9 [(0, .ref r0), (1, .int l1), (2, .int l2), (3, .int (nI i3))] [.int (e_X12_nodes μ r0), .int (nI i3)] μ 0 0 K
  refine G_icmp_ge (tgt := 102) d_X12_grouped_9 rfl (fun c0 => ?_) (fun c0 => ?_)
  ·
    refine G_iload_n d_X12_grouped_102 rfl 2 rfl ?_
    exact G_iret rfl rfl rfl d_X12_grouped_103 (hK c0)
  ·
    refine G_aload_n d_X12_grouped_12 rfl 0 rfl ?_
    refine G_getR (r := r0 + 10) 12 20 (w12_kd hw12_r0) (w12_f20 hw12_r0) cok12 (by decide) rfl fl_X12_37 d_X12_grouped_13 ?_
    refine G_iload_n d_X12_grouped_16 rfl 3 rfl ?_
    refine G_bipush d_X12_grouped_17 bp_m4 ?_
    refine G_iast i3 (w12_k20 hw12_r0) rfl (hb c0) d_X12_grouped_19 ?_
    refine G_iconst d_X12_grouped_20 ic_0 ?_
    refine G_istore (L' := [(4, .int (nI 0)), (0, .ref r0), (1, .int l1), (2, .int l2), (3, .int (nI i3))]) d_X12_grouped_21 (by decide) rfl ?_
    refine G_sub (L' := [(0, .ref r0), (1, .int l1), (2, .int l2), (3, .int (nI i3)), (4, .int (nI 0))]) [1, 2, 3, 4, 0] rfl ?_
    exact (h c0)
theorem b_X12_grouped_23 {X : cX} {d : Nat} {μ : mM} {K : Option Value → mM → Prop} {r0 : Nat} {l1 : Int32} {l2 : Int32} {i3 : Nat} {l4 : Int32} (h : (nI i3) ≤ l4 → G X (Rm (d + 2)) mX12_grouped 75 [(0, .ref r0), (1, .int l1), (2, .int l2), (3, .int (nI i3))] [] μ 0 0 K) (hw12_r0 : WF12 μ r0) (hb : ¬ (nI i3) ≤ l4 → i3 < 6) (h_2 : ¬ (nI i3) ≤ l4 → ¬ (iv μ (r0 + 10) i3) = ((-4) : Int32) → G X (Rm (d + 2)) mX12_grouped 75 [(0, .ref r0), (1, .int l1), (2, .int l2), (3, .int (nI i3))] [] μ 0 0 K) (hc_isAlike : ¬ (nI i3) ≤ l4 → (iv μ (r0 + 10) i3) = ((-4) : Int32) → Ct X (Rm (d + 1)) mX12_isAlike [.ref r0, .int (nI i3), .int l4, .int l1] μ (fun r μ2 => G X (Rm (d + 2)) mX12_grouped 53 [(0, .ref r0), (1, .int l1), (2, .int l2), (3, .int (nI i3)), (4, .int l4)] (r.toList ++ [.int (nI i3), .ref (r0 + 10)]) μ2 0 0 K)) : G X (Rm (d + 2)) mX12_grouped 23 [(0, .ref r0), (1, .int l1), (2, .int l2), (3, .int (nI i3)), (4, .int l4)] [] μ 0 0 K := by
  refine G_iload d_X12_grouped_23 4 rfl ?_
  refine G_iload_n d_X12_grouped_25 rfl 3 rfl ?_
  refine G_icmp_ge (tgt := 75) d_X12_grouped_26 rfl (fun c0 => ?_) (fun c0 => ?_)
  ·
    refine G_sub (L' := [(0, .ref r0), (1, .int l1), (2, .int l2), (3, .int (nI i3))]) [0, 1, 2, 3] rfl ?_
    exact (h c0)
  ·
    refine G_aload_n d_X12_grouped_29 rfl 0 rfl ?_
    refine G_getR (r := r0 + 10) 12 20 (w12_kd hw12_r0) (w12_f20 hw12_r0) cok12 (by decide) rfl fl_X12_37 d_X12_grouped_30 ?_
    refine G_iload_n d_X12_grouped_33 rfl 3 rfl ?_
    refine G_iald i3 (w12_k20 hw12_r0) rfl (hb c0) d_X12_grouped_34 ?_
    refine G_bipush d_X12_grouped_35 bp_m4 ?_
    refine G_icmp_ne (tgt := 75) d_X12_grouped_37 rfl (fun c1 => ?_) (fun c1 => ?_)
    ·
      refine G_sub (L' := [(0, .ref r0), (1, .int l1), (2, .int l2), (3, .int (nI i3))]) [0, 1, 2, 3] rfl ?_
      exact (h_2 c0 c1)
    ·
      refine G_aload_n d_X12_grouped_40 rfl 0 rfl ?_
      refine G_getR (r := r0 + 10) 12 20 (w12_kd hw12_r0) (w12_f20 hw12_r0) cok12 (by decide) rfl fl_X12_37 d_X12_grouped_41 ?_
      refine G_iload_n d_X12_grouped_44 rfl 3 rfl ?_
      refine G_aload_n d_X12_grouped_45 rfl 0 rfl ?_
      refine G_iload_n d_X12_grouped_46 rfl 3 rfl ?_
      refine G_iload d_X12_grouped_47 4 rfl ?_
      refine G_iload_n d_X12_grouped_49 rfl 1 rfl ?_
      refine G_callV (M' := mX12_isAlike) (R' := (Rm (d + 1))) (S := [.int (nI i3), .ref (r0 + 10)]) [.int (nI i3), .int l4, .int l1] 12 (w12_kd hw12_r0) cok12 rfl ok_X12_isAlike ml_X12_263 pn_X12_isAlike (ru_Rm (by decide)) (Nat.le_of_ble_eq_true rfl) d_X12_grouped_50 ?_
      exact (hc_isAlike c0 c1)
theorem b_X12_grouped_53 {X : cX} {d : Nat} {μ : mM} {K : Option Value → mM → Prop} {r0 : Nat} {l1 : Int32} {l2 : Int32} {l3 : Int32} {i4 : Nat} {q0 : Nat} {v1 : Int32} {v2 : Int32} (h : v2 = 0 → G X (Rm (d + 2)) mX12_grouped 68 [(0, .ref r0), (1, .int l1), (2, .int l2), (3, .int l3), (4, .int (nI i4))] [.int (-4), .int v1, .ref q0] μ 0 0 K) (hw12_r0 : WF12 μ r0) (hb : ¬ v2 = 0 → i4 < 6) (h_2 : ¬ v2 = 0 → G X (Rm (d + 2)) mX12_grouped 68 [(0, .ref r0), (1, .int l1), (2, .int l2), (3, .int l3), (4, .int (nI i4))] [.int (iv μ (r0 + 10) i4), .int v1, .ref q0] μ 0 0 K) : G X (Rm (d + 2)) mX12_grouped 53 [(0, .ref r0), (1, .int l1), (2, .int l2), (3, .int l3), (4, .int (nI i4))] [.int v2, .int v1, .ref q0] μ 0 0 K := by
  refine G_if_eq (tgt := 66) d_X12_grouped_53 rfl (fun c0 => ?_) (fun c0 => ?_)
  ·
    refine G_bipush d_X12_grouped_66 bp_m4 ?_
    exact (h c0)
  ·
    refine G_aload_n d_X12_grouped_56 rfl 0 rfl ?_
    refine G_getR (r := r0 + 10) 12 20 (w12_kd hw12_r0) (w12_f20 hw12_r0) cok12 (by decide) rfl fl_X12_37 d_X12_grouped_57 ?_
    refine G_iload d_X12_grouped_60 4 rfl ?_
    refine G_iald i4 (w12_k20 hw12_r0) rfl (hb c0) d_X12_grouped_62 ?_
    refine G_goto (tgt := 68) d_X12_grouped_63 rfl ?_
    exact (h_2 c0)
theorem b_X12_grouped_68 {X : cX} {d : Nat} {μ : mM} {K : Option Value → mM → Prop} {r0 : Nat} {l1 : Int32} {l2 : Int32} {l3 : Int32} {i4 : Nat} {q0 : Nat} {v1 : Int32} {v2 : Int32} {n0 : Nat} {j0 : Nat} (hk_q0 : kd μ q0 = (1, n0)) (hi_j0 : v1 = nI j0) (hb : j0 < n0) (h : G X (Rm (d + 2)) mX12_grouped 23 [(0, .ref r0), (1, .int l1), (2, .int l2), (3, .int l3), (4, .int (nI (i4 + 1)))] [] (wi μ q0 j0 v2) 0 0 K) : G X (Rm (d + 2)) mX12_grouped 68 [(0, .ref r0), (1, .int l1), (2, .int l2), (3, .int l3), (4, .int (nI i4))] [.int v2, .int v1, .ref q0] μ 0 0 K := by
  refine G_iast j0 hk_q0 hi_j0 hb d_X12_grouped_68 ?_
  refine G_iinc (L' := [(4, .int (nI (i4 + 1))), (0, .ref r0), (1, .int l1), (2, .int l2), (3, .int l3)]) d_X12_grouped_69 4 rfl (inc1 i4) (by decide) rfl ?_
  refine G_goto (tgt := 23) d_X12_grouped_72 rfl ?_
  refine G_sub (L' := [(0, .ref r0), (1, .int l1), (2, .int l2), (3, .int l3), (4, .int (nI (i4 + 1)))]) [1, 2, 3, 4, 0] rfl ?_
  exact h
theorem b_X12_grouped_75 {X : cX} {d : Nat} {μ : mM} {K : Option Value → mM → Prop} {r0 : Nat} {l1 : Int32} {i2 : Nat} {i3 : Nat} (hw12_r0 : WF12 μ r0) (hb : i3 < 6) (h : ¬ (iv μ (r0 + 10) i3) = ((-4) : Int32) → G X (Rm (d + 2)) mX12_grouped 96 [(0, .ref r0), (1, .int l1), (2, .int (nI i2)), (3, .int (nI i3))] [] μ 0 0 K) (hb_2 : (iv μ (r0 + 10) i3) = ((-4) : Int32) → i3 < 6) (h_2 : (iv μ (r0 + 10) i3) = ((-4) : Int32) → G X (Rm (d + 2)) mX12_grouped 96 [(0, .ref r0), (1, .int l1), (2, .int (nI (i2 + 1))), (3, .int (nI i3))] [] (wi μ (r0 + 10) i3 (nI i2)) 0 0 K) : G X (Rm (d + 2)) mX12_grouped 75 [(0, .ref r0), (1, .int l1), (2, .int (nI i2)), (3, .int (nI i3))] [] μ 0 0 K := by
  refine G_aload_n d_X12_grouped_75 rfl 0 rfl ?_
  refine G_getR (r := r0 + 10) 12 20 (w12_kd hw12_r0) (w12_f20 hw12_r0) cok12 (by decide) rfl fl_X12_37 d_X12_grouped_76 ?_
  refine G_iload_n d_X12_grouped_79 rfl 3 rfl ?_
  refine G_iald i3 (w12_k20 hw12_r0) rfl hb d_X12_grouped_80 ?_
  refine G_bipush d_X12_grouped_81 bp_m4 ?_
  refine G_icmp_ne (tgt := 96) d_X12_grouped_83 rfl (fun c0 => ?_) (fun c0 => ?_)
  ·
    exact (h c0)
  ·
    refine G_aload_n d_X12_grouped_86 rfl 0 rfl ?_
    refine G_getR (r := r0 + 10) 12 20 (w12_kd hw12_r0) (w12_f20 hw12_r0) cok12 (by decide) rfl fl_X12_37 d_X12_grouped_87 ?_
    refine G_iload_n d_X12_grouped_90 rfl 3 rfl ?_
    refine G_iload_n d_X12_grouped_91 rfl 2 rfl ?_
    refine G_iast i3 (w12_k20 hw12_r0) rfl (hb_2 c0) d_X12_grouped_92 ?_
    refine G_iinc (L' := [(2, .int (nI (i2 + 1))), (0, .ref r0), (1, .int l1), (3, .int (nI i3))]) d_X12_grouped_93 2 rfl (inc1 i2) (by decide) rfl ?_
    refine G_sub (L' := [(0, .ref r0), (1, .int l1), (2, .int (nI (i2 + 1))), (3, .int (nI i3))]) [1, 2, 0, 3] rfl ?_
    exact (h_2 c0)
theorem b_X12_grouped_96 {X : cX} {d : Nat} {μ : mM} {K : Option Value → mM → Prop} {r0 : Nat} {l1 : Int32} {l2 : Int32} {i3 : Nat} (h : G X (Rm (d + 2)) mX12_grouped 4 [(0, .ref r0), (1, .int l1), (2, .int l2), (3, .int (nI (i3 + 1)))] [] μ 0 0 K) : G X (Rm (d + 2)) mX12_grouped 96 [(0, .ref r0), (1, .int l1), (2, .int l2), (3, .int (nI i3))] [] μ 0 0 K := by
  refine G_iinc (L' := [(3, .int (nI (i3 + 1))), (0, .ref r0), (1, .int l1), (2, .int l2)]) d_X12_grouped_96 3 rfl (inc1 i3) (by decide) rfl ?_
  refine G_goto (tgt := 4) d_X12_grouped_99 rfl ?_
  refine G_sub (L' := [(0, .ref r0), (1, .int l1), (2, .int l2), (3, .int (nI (i3 + 1)))]) [1, 2, 3, 0] rfl ?_
  exact h
theorem d_X12_fold_0 : decode cX12_fold 0 = .ok (.iload_n 1, 1) := by decide +kernel
theorem d_X12_fold_1 : decode cX12_fold 1 = .ok (.invokestatic 235, 3) := by decide +kernel
theorem d_X12_fold_4 : decode cX12_fold 4 = .ok (.ifCond .ne 5, 3) := by decide +kernel
theorem d_X12_fold_7 : decode cX12_fold 7 = .ok (.iconst (-1), 1) := by decide +kernel
theorem d_X12_fold_8 : decode cX12_fold 8 = .ok (.ireturn, 1) := by decide +kernel
theorem d_X12_fold_9 : decode cX12_fold 9 = .ok (.aload_n 0, 1) := by decide +kernel
theorem d_X12_fold_10 : decode cX12_fold 10 = .ok (.invokevirtual 198, 3) := by decide +kernel
theorem d_X12_fold_13 : decode cX12_fold 13 = .ok (.iconst 0, 1) := by decide +kernel
theorem d_X12_fold_14 : decode cX12_fold 14 = .ok (.istore_n 2, 1) := by decide +kernel
theorem d_X12_fold_15 : decode cX12_fold 15 = .ok (.iload_n 2, 1) := by decide +kernel
theorem d_X12_fold_16 : decode cX12_fold 16 = .ok (.bipush 18, 2) := by decide +kernel
theorem d_X12_fold_18 : decode cX12_fold 18 = .ok (.if_icmp .ge 42, 3) := by decide +kernel
theorem d_X12_fold_21 : decode cX12_fold 21 = .ok (.aload_n 0, 1) := by decide +kernel
theorem d_X12_fold_22 : decode cX12_fold 22 = .ok (.getfield 40, 3) := by decide +kernel
theorem d_X12_fold_25 : decode cX12_fold 25 = .ok (.iload_n 2, 1) := by decide +kernel
theorem d_X12_fold_26 : decode cX12_fold 26 = .ok (.iload_n 2, 1) := by decide +kernel
theorem d_X12_fold_27 : decode cX12_fold 27 = .ok (.bipush 6, 2) := by decide +kernel
theorem d_X12_fold_29 : decode cX12_fold 29 = .ok (.irem, 1) := by decide +kernel
theorem d_X12_fold_30 : decode cX12_fold 30 = .ok (.aload_n 0, 1) := by decide +kernel
theorem d_X12_fold_31 : decode cX12_fold 31 = .ok (.invokevirtual 169, 3) := by decide +kernel
theorem d_X12_fold_34 : decode cX12_fold 34 = .ok (.if_icmp .ge 18, 3) := by decide +kernel
theorem d_X12_fold_37 : decode cX12_fold 37 = .ok (.aload_n 0, 1) := by decide +kernel
theorem d_X12_fold_38 : decode cX12_fold 38 = .ok (.iload_n 2, 1) := by decide +kernel
theorem d_X12_fold_39 : decode cX12_fold 39 = .ok (.bipush 6, 2) := by decide +kernel
theorem d_X12_fold_41 : decode cX12_fold 41 = .ok (.idiv, 1) := by decide +kernel
theorem d_X12_fold_42 : decode cX12_fold 42 = .ok (.iload_n 2, 1) := by decide +kernel
theorem d_X12_fold_43 : decode cX12_fold 43 = .ok (.bipush 6, 2) := by decide +kernel
theorem d_X12_fold_45 : decode cX12_fold 45 = .ok (.irem, 1) := by decide +kernel
theorem d_X12_fold_46 : decode cX12_fold 46 = .ok (.invokevirtual 201, 3) := by decide +kernel
theorem d_X12_fold_49 : decode cX12_fold 49 = .ok (.goto 4, 3) := by decide +kernel
theorem d_X12_fold_52 : decode cX12_fold 52 = .ok (.iconst 0, 1) := by decide +kernel
theorem d_X12_fold_53 : decode cX12_fold 53 = .ok (.iastore, 1) := by decide +kernel
theorem d_X12_fold_54 : decode cX12_fold 54 = .ok (.iinc 2 1, 3) := by decide +kernel
theorem d_X12_fold_57 : decode cX12_fold 57 = .ok (.goto (-42), 3) := by decide +kernel
theorem d_X12_fold_60 : decode cX12_fold 60 = .ok (.aload_n 0, 1) := by decide +kernel
theorem d_X12_fold_61 : decode cX12_fold 61 = .ok (.iload_n 1, 1) := by decide +kernel
theorem d_X12_fold_62 : decode cX12_fold 62 = .ok (.invokevirtual 267, 3) := by decide +kernel
theorem d_X12_fold_65 : decode cX12_fold 65 = .ok (.istore_n 2, 1) := by decide +kernel
theorem d_X12_fold_66 : decode cX12_fold 66 = .ok (.aload_n 0, 1) := by decide +kernel
theorem d_X12_fold_67 : decode cX12_fold 67 = .ok (.invokevirtual 169, 3) := by decide +kernel
theorem d_X12_fold_70 : decode cX12_fold 70 = .ok (.istore_n 3, 1) := by decide +kernel
theorem d_X12_fold_71 : decode cX12_fold 71 = .ok (.iconst 0, 1) := by decide +kernel
theorem d_X12_fold_72 : decode cX12_fold 72 = .ok (.istore 4, 2) := by decide +kernel
theorem d_X12_fold_74 : decode cX12_fold 74 = .ok (.iload 4, 2) := by decide +kernel
theorem d_X12_fold_76 : decode cX12_fold 76 = .ok (.bipush 61, 2) := by decide +kernel
theorem d_X12_fold_78 : decode cX12_fold 78 = .ok (.if_icmp .ge 40, 3) := by decide +kernel
theorem d_X12_fold_81 : decode cX12_fold 81 = .ok (.aload_n 0, 1) := by decide +kernel
theorem d_X12_fold_82 : decode cX12_fold 82 = .ok (.getfield 7, 3) := by decide +kernel
theorem d_X12_fold_85 : decode cX12_fold 85 = .ok (.sipush 305, 3) := by decide +kernel
theorem d_X12_fold_88 : decode cX12_fold 88 = .ok (.iload 4, 2) := by decide +kernel
theorem d_X12_fold_90 : decode cX12_fold 90 = .ok (.iadd, 1) := by decide +kernel
theorem d_X12_fold_91 : decode cX12_fold 91 = .ok (.iload 4, 2) := by decide +kernel
theorem d_X12_fold_93 : decode cX12_fold 93 = .ok (.bipush 24, 2) := by decide +kernel
theorem d_X12_fold_95 : decode cX12_fold 95 = .ok (.if_icmp .lt 15, 3) := by decide +kernel
theorem d_X12_fold_98 : decode cX12_fold 98 = .ok (.iload 4, 2) := by decide +kernel
theorem d_X12_fold_100 : decode cX12_fold 100 = .ok (.bipush 60, 2) := by decide +kernel
theorem d_X12_fold_102 : decode cX12_fold 102 = .ok (.if_icmp .ge 8, 3) := by decide +kernel
theorem d_X12_fold_105 : decode cX12_fold 105 = .ok (.bipush (-4), 2) := by decide +kernel
theorem d_X12_fold_107 : decode cX12_fold 107 = .ok (.goto 4, 3) := by decide +kernel
theorem d_X12_fold_110 : decode cX12_fold 110 = .ok (.iconst 0, 1) := by decide +kernel
theorem d_X12_fold_111 : decode cX12_fold 111 = .ok (.iastore, 1) := by decide +kernel
theorem d_X12_fold_112 : decode cX12_fold 112 = .ok (.iinc 4 1, 3) := by decide +kernel
theorem d_X12_fold_115 : decode cX12_fold 115 = .ok (.goto (-41), 3) := by decide +kernel
theorem d_X12_fold_118 : decode cX12_fold 118 = .ok (.iconst 0, 1) := by decide +kernel
theorem d_X12_fold_119 : decode cX12_fold 119 = .ok (.istore 4, 2) := by decide +kernel
theorem d_X12_fold_121 : decode cX12_fold 121 = .ok (.iload 4, 2) := by decide +kernel
theorem d_X12_fold_123 : decode cX12_fold 123 = .ok (.iload_n 3, 1) := by decide +kernel
theorem d_X12_fold_124 : decode cX12_fold 124 = .ok (.if_icmp .ge 211, 3) := by decide +kernel
theorem d_X12_fold_127 : decode cX12_fold 127 = .ok (.aload_n 0, 1) := by decide +kernel
theorem d_X12_fold_128 : decode cX12_fold 128 = .ok (.getfield 37, 3) := by decide +kernel
theorem d_X12_fold_131 : decode cX12_fold 131 = .ok (.iload 4, 2) := by decide +kernel
theorem d_X12_fold_133 : decode cX12_fold 133 = .ok (.iaload, 1) := by decide +kernel
theorem d_X12_fold_134 : decode cX12_fold 134 = .ok (.istore 5, 2) := by decide +kernel
theorem d_X12_fold_136 : decode cX12_fold 136 = .ok (.iconst 1, 1) := by decide +kernel
theorem d_X12_fold_137 : decode cX12_fold 137 = .ok (.istore 6, 2) := by decide +kernel
theorem d_X12_fold_139 : decode cX12_fold 139 = .ok (.iconst 0, 1) := by decide +kernel
theorem d_X12_fold_140 : decode cX12_fold 140 = .ok (.istore 7, 2) := by decide +kernel
theorem d_X12_fold_142 : decode cX12_fold 142 = .ok (.iload 7, 2) := by decide +kernel
theorem d_X12_fold_144 : decode cX12_fold 144 = .ok (.iload 4, 2) := by decide +kernel
theorem d_X12_fold_146 : decode cX12_fold 146 = .ok (.if_icmp .ge 33, 3) := by decide +kernel
theorem d_X12_fold_149 : decode cX12_fold 149 = .ok (.iload 6, 2) := by decide +kernel
theorem d_X12_fold_151 : decode cX12_fold 151 = .ok (.ifCond .eq 19, 3) := by decide +kernel
theorem d_X12_fold_154 : decode cX12_fold 154 = .ok (.aload_n 0, 1) := by decide +kernel
theorem d_X12_fold_155 : decode cX12_fold 155 = .ok (.getfield 37, 3) := by decide +kernel
theorem d_X12_fold_158 : decode cX12_fold 158 = .ok (.iload 7, 2) := by decide +kernel
theorem d_X12_fold_160 : decode cX12_fold 160 = .ok (.iaload, 1) := by decide +kernel
theorem d_X12_fold_161 : decode cX12_fold 161 = .ok (.iload 5, 2) := by decide +kernel
theorem d_X12_fold_163 : decode cX12_fold 163 = .ok (.if_icmp .eq 7, 3) := by decide +kernel
theorem d_X12_fold_166 : decode cX12_fold 166 = .ok (.iconst 1, 1) := by decide +kernel
theorem d_X12_fold_167 : decode cX12_fold 167 = .ok (.goto 4, 3) := by decide +kernel
theorem d_X12_fold_170 : decode cX12_fold 170 = .ok (.iconst 0, 1) := by decide +kernel
theorem d_X12_fold_171 : decode cX12_fold 171 = .ok (.istore 6, 2) := by decide +kernel
theorem d_X12_fold_173 : decode cX12_fold 173 = .ok (.iinc 7 1, 3) := by decide +kernel
theorem d_X12_fold_176 : decode cX12_fold 176 = .ok (.goto (-34), 3) := by decide +kernel
theorem d_X12_fold_179 : decode cX12_fold 179 = .ok (.aload_n 0, 1) := by decide +kernel
theorem d_X12_fold_180 : decode cX12_fold 180 = .ok (.getfield 7, 3) := by decide +kernel
theorem d_X12_fold_183 : decode cX12_fold 183 = .ok (.sipush 305, 3) := by decide +kernel
theorem d_X12_fold_186 : decode cX12_fold 186 = .ok (.iload 5, 2) := by decide +kernel
theorem d_X12_fold_188 : decode cX12_fold 188 = .ok (.iadd, 1) := by decide +kernel
theorem d_X12_fold_189 : decode cX12_fold 189 = .ok (.iload 6, 2) := by decide +kernel
theorem d_X12_fold_191 : decode cX12_fold 191 = .ok (.ifCond .eq 13, 3) := by decide +kernel
theorem d_X12_fold_194 : decode cX12_fold 194 = .ok (.aload_n 0, 1) := by decide +kernel
theorem d_X12_fold_195 : decode cX12_fold 195 = .ok (.getfield 7, 3) := by decide +kernel
theorem d_X12_fold_198 : decode cX12_fold 198 = .ok (.iload 4, 2) := by decide +kernel
theorem d_X12_fold_200 : decode cX12_fold 200 = .ok (.iaload, 1) := by decide +kernel
theorem d_X12_fold_201 : decode cX12_fold 201 = .ok (.goto 4, 3) := by decide +kernel
theorem d_X12_fold_204 : decode cX12_fold 204 = .ok (.iconst 1, 1) := by decide +kernel
theorem d_X12_fold_205 : decode cX12_fold 205 = .ok (.iastore, 1) := by decide +kernel
theorem d_X12_fold_206 : decode cX12_fold 206 = .ok (.iconst 0, 1) := by decide +kernel
theorem d_X12_fold_207 : decode cX12_fold 207 = .ok (.istore 7, 2) := by decide +kernel
theorem d_X12_fold_209 : decode cX12_fold 209 = .ok (.iload 7, 2) := by decide +kernel
theorem d_X12_fold_211 : decode cX12_fold 211 = .ok (.iconst 3, 1) := by decide +kernel
theorem d_X12_fold_212 : decode cX12_fold 212 = .ok (.if_icmp .ge 34, 3) := by decide +kernel
theorem d_X12_fold_215 : decode cX12_fold 215 = .ok (.aload_n 0, 1) := by decide +kernel
theorem d_X12_fold_216 : decode cX12_fold 216 = .ok (.getfield 7, 3) := by decide +kernel
theorem d_X12_fold_219 : decode cX12_fold 219 = .ok (.sipush 311, 3) := by decide +kernel
theorem d_X12_fold_222 : decode cX12_fold 222 = .ok (.bipush 6, 2) := by decide +kernel
theorem d_X12_fold_224 : decode cX12_fold 224 = .ok (.iload 7, 2) := by decide +kernel
theorem d_X12_fold_226 : decode cX12_fold 226 = .ok (.imul, 1) := by decide +kernel
theorem d_X12_fold_227 : decode cX12_fold 227 = .ok (.iadd, 1) := by decide +kernel
theorem d_X12_fold_228 : decode cX12_fold 228 = .ok (.iload 5, 2) := by decide +kernel
theorem d_X12_fold_230 : decode cX12_fold 230 = .ok (.iadd, 1) := by decide +kernel
theorem d_X12_fold_231 : decode cX12_fold 231 = .ok (.aload_n 0, 1) := by decide +kernel
theorem d_X12_fold_232 : decode cX12_fold 232 = .ok (.iload 7, 2) := by decide +kernel
theorem d_X12_fold_234 : decode cX12_fold 234 = .ok (.iload 4, 2) := by decide +kernel
theorem d_X12_fold_236 : decode cX12_fold 236 = .ok (.invokevirtual 178, 3) := by decide +kernel
theorem d_X12_fold_239 : decode cX12_fold 239 = .ok (.iastore, 1) := by decide +kernel
theorem d_X12_fold_240 : decode cX12_fold 240 = .ok (.iinc 7 1, 3) := by decide +kernel
theorem d_X12_fold_243 : decode cX12_fold 243 = .ok (.goto (-34), 3) := by decide +kernel
theorem d_X12_fold_246 : decode cX12_fold 246 = .ok (.iconst 0, 1) := by decide +kernel
theorem d_X12_fold_247 : decode cX12_fold 247 = .ok (.istore 7, 2) := by decide +kernel
theorem d_X12_fold_249 : decode cX12_fold 249 = .ok (.iload 7, 2) := by decide +kernel
theorem d_X12_fold_251 : decode cX12_fold 251 = .ok (.iload_n 3, 1) := by decide +kernel
theorem d_X12_fold_252 : decode cX12_fold 252 = .ok (.if_icmp .ge 77, 3) := by decide +kernel
theorem d_X12_fold_255 : decode cX12_fold 255 = .ok (.sipush 329, 3) := by decide +kernel
theorem d_X12_fold_258 : decode cX12_fold 258 = .ok (.bipush 6, 2) := by decide +kernel
theorem d_X12_fold_260 : decode cX12_fold 260 = .ok (.iload 5, 2) := by decide +kernel
theorem d_X12_fold_262 : decode cX12_fold 262 = .ok (.imul, 1) := by decide +kernel
theorem d_X12_fold_263 : decode cX12_fold 263 = .ok (.iadd, 1) := by decide +kernel
theorem d_X12_fold_264 : decode cX12_fold 264 = .ok (.aload_n 0, 1) := by decide +kernel
theorem d_X12_fold_265 : decode cX12_fold 265 = .ok (.getfield 37, 3) := by decide +kernel
theorem d_X12_fold_268 : decode cX12_fold 268 = .ok (.iload 7, 2) := by decide +kernel
theorem d_X12_fold_270 : decode cX12_fold 270 = .ok (.iaload, 1) := by decide +kernel
theorem d_X12_fold_271 : decode cX12_fold 271 = .ok (.iadd, 1) := by decide +kernel
theorem d_X12_fold_272 : decode cX12_fold 272 = .ok (.istore 8, 2) := by decide +kernel
theorem d_X12_fold_274 : decode cX12_fold 274 = .ok (.aload_n 0, 1) := by decide +kernel
theorem d_X12_fold_275 : decode cX12_fold 275 = .ok (.getfield 7, 3) := by decide +kernel
theorem d_X12_fold_278 : decode cX12_fold 278 = .ok (.iload 8, 2) := by decide +kernel
theorem d_X12_fold_280 : decode cX12_fold 280 = .ok (.aload_n 0, 1) := by decide +kernel
theorem d_X12_fold_281 : decode cX12_fold 281 = .ok (.getfield 7, 3) := by decide +kernel
theorem d_X12_fold_284 : decode cX12_fold 284 = .ok (.iload 8, 2) := by decide +kernel
theorem d_X12_fold_286 : decode cX12_fold 286 = .ok (.iaload, 1) := by decide +kernel
theorem d_X12_fold_287 : decode cX12_fold 287 = .ok (.bipush (-4), 2) := by decide +kernel
theorem d_X12_fold_289 : decode cX12_fold 289 = .ok (.if_icmp .eq 21, 3) := by decide +kernel
theorem d_X12_fold_292 : decode cX12_fold 292 = .ok (.aload_n 0, 1) := by decide +kernel
theorem d_X12_fold_293 : decode cX12_fold 293 = .ok (.getfield 7, 3) := by decide +kernel
theorem d_X12_fold_296 : decode cX12_fold 296 = .ok (.iload 8, 2) := by decide +kernel
theorem d_X12_fold_298 : decode cX12_fold 298 = .ok (.iaload, 1) := by decide +kernel
theorem d_X12_fold_299 : decode cX12_fold 299 = .ok (.aload_n 0, 1) := by decide +kernel
theorem d_X12_fold_300 : decode cX12_fold 300 = .ok (.iload 4, 2) := by decide +kernel
theorem d_X12_fold_302 : decode cX12_fold 302 = .ok (.iload 7, 2) := by decide +kernel
theorem d_X12_fold_304 : decode cX12_fold 304 = .ok (.invokevirtual 204, 3) := by decide +kernel
theorem d_X12_fold_307 : decode cX12_fold 307 = .ok (.if_icmp .ne 14, 3) := by decide +kernel
theorem d_X12_fold_310 : decode cX12_fold 310 = .ok (.aload_n 0, 1) := by decide +kernel
theorem d_X12_fold_311 : decode cX12_fold 311 = .ok (.iload 4, 2) := by decide +kernel
theorem d_X12_fold_313 : decode cX12_fold 313 = .ok (.iload 7, 2) := by decide +kernel
theorem d_X12_fold_315 : decode cX12_fold 315 = .ok (.invokevirtual 204, 3) := by decide +kernel
theorem d_X12_fold_318 : decode cX12_fold 318 = .ok (.goto 4, 3) := by decide +kernel
theorem d_X12_fold_321 : decode cX12_fold 321 = .ok (.iconst 1, 1) := by decide +kernel
theorem d_X12_fold_322 : decode cX12_fold 322 = .ok (.iastore, 1) := by decide +kernel
theorem d_X12_fold_323 : decode cX12_fold 323 = .ok (.iinc 7 1, 3) := by decide +kernel
theorem d_X12_fold_326 : decode cX12_fold 326 = .ok (.goto (-77), 3) := by decide +kernel
theorem d_X12_fold_329 : decode cX12_fold 329 = .ok (.iinc 4 1, 3) := by decide +kernel
theorem d_X12_fold_332 : decode cX12_fold 332 = .ok (.goto (-211), 3) := by decide +kernel
theorem d_X12_fold_335 : decode cX12_fold 335 = .ok (.bipush 24, 2) := by decide +kernel
theorem d_X12_fold_337 : decode cX12_fold 337 = .ok (.istore 4, 2) := by decide +kernel
theorem d_X12_fold_339 : decode cX12_fold 339 = .ok (.iload 4, 2) := by decide +kernel
theorem d_X12_fold_341 : decode cX12_fold 341 = .ok (.bipush 60, 2) := by decide +kernel
theorem d_X12_fold_343 : decode cX12_fold 343 = .ok (.if_icmp .ge 51, 3) := by decide +kernel
theorem d_X12_fold_346 : decode cX12_fold 346 = .ok (.aload_n 0, 1) := by decide +kernel
theorem d_X12_fold_347 : decode cX12_fold 347 = .ok (.getfield 7, 3) := by decide +kernel
theorem d_X12_fold_350 : decode cX12_fold 350 = .ok (.sipush 305, 3) := by decide +kernel
theorem d_X12_fold_353 : decode cX12_fold 353 = .ok (.iload 4, 2) := by decide +kernel
theorem d_X12_fold_355 : decode cX12_fold 355 = .ok (.iadd, 1) := by decide +kernel
theorem d_X12_fold_356 : decode cX12_fold 356 = .ok (.aload_n 0, 1) := by decide +kernel
theorem d_X12_fold_357 : decode cX12_fold 357 = .ok (.getfield 7, 3) := by decide +kernel
theorem d_X12_fold_360 : decode cX12_fold 360 = .ok (.sipush 305, 3) := by decide +kernel
theorem d_X12_fold_363 : decode cX12_fold 363 = .ok (.iload 4, 2) := by decide +kernel
theorem d_X12_fold_365 : decode cX12_fold 365 = .ok (.iadd, 1) := by decide +kernel
theorem d_X12_fold_366 : decode cX12_fold 366 = .ok (.iaload, 1) := by decide +kernel
theorem d_X12_fold_367 : decode cX12_fold 367 = .ok (.bipush (-4), 2) := by decide +kernel
theorem d_X12_fold_369 : decode cX12_fold 369 = .ok (.if_icmp .ne 7, 3) := by decide +kernel
theorem d_X12_fold_372 : decode cX12_fold 372 = .ok (.iconst 0, 1) := by decide +kernel
theorem d_X12_fold_373 : decode cX12_fold 373 = .ok (.goto 14, 3) := by decide +kernel
theorem d_X12_fold_376 : decode cX12_fold 376 = .ok (.aload_n 0, 1) := by decide +kernel
theorem d_X12_fold_377 : decode cX12_fold 377 = .ok (.getfield 7, 3) := by decide +kernel
theorem d_X12_fold_380 : decode cX12_fold 380 = .ok (.sipush 305, 3) := by decide +kernel
theorem d_X12_fold_383 : decode cX12_fold 383 = .ok (.iload 4, 2) := by decide +kernel
theorem d_X12_fold_385 : decode cX12_fold 385 = .ok (.iadd, 1) := by decide +kernel
theorem d_X12_fold_386 : decode cX12_fold 386 = .ok (.iaload, 1) := by decide +kernel
theorem d_X12_fold_387 : decode cX12_fold 387 = .ok (.iastore, 1) := by decide +kernel
theorem d_X12_fold_388 : decode cX12_fold 388 = .ok (.iinc 4 1, 3) := by decide +kernel
theorem d_X12_fold_391 : decode cX12_fold 391 = .ok (.goto (-52), 3) := by decide +kernel
theorem d_X12_fold_394 : decode cX12_fold 394 = .ok (.aload_n 0, 1) := by decide +kernel
theorem d_X12_fold_395 : decode cX12_fold 395 = .ok (.getfield 7, 3) := by decide +kernel
theorem d_X12_fold_398 : decode cX12_fold 398 = .ok (.sipush 365, 3) := by decide +kernel
theorem d_X12_fold_401 : decode cX12_fold 401 = .ok (.iload_n 2, 1) := by decide +kernel
theorem d_X12_fold_402 : decode cX12_fold 402 = .ok (.iastore, 1) := by decide +kernel
theorem d_X12_fold_403 : decode cX12_fold 403 = .ok (.aload_n 0, 1) := by decide +kernel
theorem d_X12_fold_404 : decode cX12_fold 404 = .ok (.sipush 305, 3) := by decide +kernel
theorem d_X12_fold_407 : decode cX12_fold 407 = .ok (.iconst 0, 1) := by decide +kernel
theorem d_X12_fold_408 : decode cX12_fold 408 = .ok (.invokevirtual 162, 3) := by decide +kernel
theorem d_X12_fold_411 : decode cX12_fold 411 = .ok (.iload_n 2, 1) := by decide +kernel
theorem d_X12_fold_412 : decode cX12_fold 412 = .ok (.ireturn, 1) := by decide +kernel
theorem b_X12_fold_0 {X : cX} {d : Nat} {μ : mM} {K : Option Value → mM → Prop} {r0 : Nat} {l1 : Int32} (hs : e_X12_in μ l1.toInt64 0 1 = 0 ∨ e_X12_in μ l1.toInt64 0 1 = 1) (hw12_r0 : WF12 μ r0) (hc_routesAll : ¬ (e_X12_isFlag μ l1) = 0 → Ct X (Rm (d + 2)) mX12_routesAll [.ref r0] μ (fun r μ2 => G X (Rm (d + 3)) mX12_fold 13 [(0, .ref r0), (1, .int l1)] (r.toList ++ []) μ2 0 0 K)) (hK : (e_X12_isFlag μ l1) = 0 → K (some (.int (-1))) μ) : G X (Rm (d + 3)) mX12_fold 0 [(0, .ref r0), (1, .int l1)] [] μ 0 0 K := by
  refine G_iload_n d_X12_fold_0 rfl 1 rfl ?_
  refine G_callS (M' := mX12_isFlag) (R' := (Rm (d + 2))) (S := []) [.int l1] ok_X12_isFlag ml_X12_235 pn_X12_isFlag (ru_Rm (by decide)) (Nat.le_of_ble_eq_true rfl) d_X12_fold_1 (s_X12_isFlag (μ := μ)  hs ?_)
  show G X (Rm (d + 3)) mX12_fold 4 [(0, .ref r0), (1, .int l1)] [.int (e_X12_isFlag μ l1)] μ 0 0 K
  refine G_if_ne (tgt := 9) d_X12_fold_4 rfl (fun c0 => ?_) (fun c0 => ?_)
  ·
    refine G_aload_n d_X12_fold_9 rfl 0 rfl ?_
    refine G_callV (M' := mX12_routesAll) (R' := (Rm (d + 2))) (S := []) [] 12 (w12_kd hw12_r0) cok12 rfl ok_X12_routesAll ml_X12_198 pn_X12_routesAll (ru_Rm (by decide)) (Nat.le_of_ble_eq_true rfl) d_X12_fold_10 ?_
    exact (hc_routesAll c0)
  ·
    refine G_iconst d_X12_fold_7 ic_m1 ?_
    exact G_iret rfl rfl rfl d_X12_fold_8 (hK c0)
theorem b_X12_fold_13 {X : cX} {d : Nat} {μ : mM} {K : Option Value → mM → Prop} {r0 : Nat} {l1 : Int32} (h : G X (Rm (d + 3)) mX12_fold 15 [(0, .ref r0), (1, .int l1), (2, .int 0)] [] μ 0 0 K) : G X (Rm (d + 3)) mX12_fold 13 [(0, .ref r0), (1, .int l1)] [] μ 0 0 K := by
  refine G_iconst d_X12_fold_13 ic_0 ?_
  refine G_istore_n (L' := [(2, .int 0), (0, .ref r0), (1, .int l1)]) d_X12_fold_14 rfl (by decide) rfl ?_
  refine G_sub (L' := [(0, .ref r0), (1, .int l1), (2, .int 0)]) [1, 2, 0] rfl ?_
  exact h
theorem b_X12_fold_15 {X : cX} {d : Nat} {μ : mM} {K : Option Value → mM → Prop} {r0 : Nat} {l1 : Int32} {l2 : Int32} (hw12_r0 : WF12 μ r0) (hc_grouped : (18 : Int32) ≤ l2 → Ct X (Rm (d + 2)) mX12_grouped [.ref r0, .int l1] μ (fun r μ2 => G X (Rm (d + 3)) mX12_fold 65 [(0, .ref r0)] (r.toList ++ []) μ2 0 0 K)) (h : ¬ (18 : Int32) ≤ l2 → (e_X12_nodes μ r0) ≤ (l2 - l2 / 6 * 6) → G X (Rm (d + 3)) mX12_fold 53 [(0, .ref r0), (1, .int l1), (2, .int l2)] [.int 0, .int l2, .ref (r0 + 11)] μ 0 0 K) (hc_reachOf : ¬ (18 : Int32) ≤ l2 → ¬ (e_X12_nodes μ r0) ≤ (l2 - l2 / 6 * 6) → Ct X (Rm (d + 2)) mX12_reachOf [.ref r0, .int (l2 / 6), .int (l2 - l2 / 6 * 6)] μ (fun r μ2 => G X (Rm (d + 3)) mX12_fold 49 [(0, .ref r0), (1, .int l1), (2, .int l2)] (r.toList ++ [.int l2, .ref (r0 + 11)]) μ2 0 0 K)) : G X (Rm (d + 3)) mX12_fold 15 [(0, .ref r0), (1, .int l1), (2, .int l2)] [] μ 0 0 K := by
  refine G_iload_n d_X12_fold_15 rfl 2 rfl ?_
  refine G_bipush d_X12_fold_16 bp_18 ?_
  refine G_icmp_ge (tgt := 60) d_X12_fold_18 rfl (fun c0 => ?_) (fun c0 => ?_)
  ·
    refine G_aload_n d_X12_fold_60 rfl 0 rfl ?_
    refine G_iload_n d_X12_fold_61 rfl 1 rfl ?_
    refine G_sub (L' := [(0, .ref r0)]) [0] rfl ?_
    refine G_callV (M' := mX12_grouped) (R' := (Rm (d + 2))) (S := []) [.int l1] 12 (w12_kd hw12_r0) cok12 rfl ok_X12_grouped ml_X12_267 pn_X12_grouped (ru_Rm (by decide)) (Nat.le_of_ble_eq_true rfl) d_X12_fold_62 ?_
    exact (hc_grouped c0)
  ·
    refine G_aload_n d_X12_fold_21 rfl 0 rfl ?_
    refine G_getR (r := r0 + 11) 12 21 (w12_kd hw12_r0) (w12_f21 hw12_r0) cok12 (by decide) rfl fl_X12_40 d_X12_fold_22 ?_
    refine G_iload_n d_X12_fold_25 rfl 2 rfl ?_
    refine G_iload_n d_X12_fold_26 rfl 2 rfl ?_
    refine G_bipush d_X12_fold_27 bp_6 ?_
    refine G_irem d_X12_fold_29 (by decide) ?_
    refine G_aload_n d_X12_fold_30 rfl 0 rfl ?_
    refine G_callV (M' := mX12_nodes) (R' := (Rm (d + 2))) (S := [.int (l2 - l2 / 6 * 6), .int l2, .ref (r0 + 11)]) [] 12 (w12_kd hw12_r0) cok12 rfl ok_X12_nodes ml_X12_169 pn_X12_nodes (ru_Rm (by decide)) (Nat.le_of_ble_eq_true rfl) d_X12_fold_31 (s_X12_nodes (μ := μ)  hw12_r0 ?_)
    show G X (Rm (d + 3)) mX12_fold 34 [(0, .ref r0), (1, .int l1), (2, .int l2)] [.int (e_X12_nodes μ r0), .int (l2 - l2 / 6 * 6), .int l2, .ref (r0 + 11)] μ 0 0 K
    refine G_icmp_ge (tgt := 52) d_X12_fold_34 rfl (fun c1 => ?_) (fun c1 => ?_)
    ·
      refine G_iconst d_X12_fold_52 ic_0 ?_
      exact (h c0 c1)
    ·
      refine G_aload_n d_X12_fold_37 rfl 0 rfl ?_
      refine G_iload_n d_X12_fold_38 rfl 2 rfl ?_
      refine G_bipush d_X12_fold_39 bp_6 ?_
      refine G_idiv d_X12_fold_41 (by decide) ?_
      refine G_iload_n d_X12_fold_42 rfl 2 rfl ?_
      refine G_bipush d_X12_fold_43 bp_6 ?_
      refine G_irem d_X12_fold_45 (by decide) ?_
      refine G_callV (M' := mX12_reachOf) (R' := (Rm (d + 2))) (S := [.int l2, .ref (r0 + 11)]) [.int (l2 / 6), .int (l2 - l2 / 6 * 6)] 12 (w12_kd hw12_r0) cok12 rfl ok_X12_reachOf ml_X12_201 pn_X12_reachOf (ru_Rm (by decide)) (Nat.le_of_ble_eq_true rfl) d_X12_fold_46 ?_
      exact (hc_reachOf c0 c1)
theorem b_X12_fold_49 {X : cX} {d : Nat} {μ : mM} {K : Option Value → mM → Prop} {r0 : Nat} {l1 : Int32} {l2 : Int32} {q0 : Nat} {v1 : Int32} {v2 : Int32} (h : G X (Rm (d + 3)) mX12_fold 53 [(0, .ref r0), (1, .int l1), (2, .int l2)] [.int v2, .int v1, .ref q0] μ 0 0 K) : G X (Rm (d + 3)) mX12_fold 49 [(0, .ref r0), (1, .int l1), (2, .int l2)] [.int v2, .int v1, .ref q0] μ 0 0 K := by
  refine G_goto (tgt := 53) d_X12_fold_49 rfl ?_
  exact h
theorem b_X12_fold_53 {X : cX} {d : Nat} {μ : mM} {K : Option Value → mM → Prop} {r0 : Nat} {l1 : Int32} {l2 : Int32} {q0 : Nat} {v1 : Int32} {v2 : Int32} {n0 : Nat} {j0 : Nat} (hk_q0 : kd μ q0 = (1, n0)) (hi_j0 : v1 = nI j0) (hb : j0 < n0) (h : G X (Rm (d + 3)) mX12_fold 15 [(0, .ref r0), (1, .int l1), (2, .int (l2 + 1))] [] (wi μ q0 j0 v2) 0 0 K) : G X (Rm (d + 3)) mX12_fold 53 [(0, .ref r0), (1, .int l1), (2, .int l2)] [.int v2, .int v1, .ref q0] μ 0 0 K := by
  refine G_iast j0 hk_q0 hi_j0 hb d_X12_fold_53 ?_
  refine G_iinc (L' := [(2, .int (l2 + 1)), (0, .ref r0), (1, .int l1)]) d_X12_fold_54 2 rfl (incI _) (by decide) rfl ?_
  refine G_goto (tgt := 15) d_X12_fold_57 rfl ?_
  refine G_sub (L' := [(0, .ref r0), (1, .int l1), (2, .int (l2 + 1))]) [1, 2, 0] rfl ?_
  exact h
theorem b_X12_fold_65 {X : cX} {d : Nat} {μ : mM} {K : Option Value → mM → Prop} {r0 : Nat} {v0 : Int32} (hw12_r0 : WF12 μ r0) (h : G X (Rm (d + 3)) mX12_fold 74 [(0, .ref r0), (2, .int v0), (3, .int (e_X12_nodes μ r0)), (4, .int (nI 0))] [] μ 0 0 K) : G X (Rm (d + 3)) mX12_fold 65 [(0, .ref r0)] [.int v0] μ 0 0 K := by
  refine G_istore_n (L' := [(2, .int v0), (0, .ref r0)]) d_X12_fold_65 rfl (by decide) rfl ?_
  refine G_aload_n d_X12_fold_66 rfl 1 rfl ?_
  refine G_callV (M' := mX12_nodes) (R' := (Rm (d + 2))) (S := []) [] 12 (w12_kd hw12_r0) cok12 rfl ok_X12_nodes ml_X12_169 pn_X12_nodes (ru_Rm (by decide)) (Nat.le_of_ble_eq_true rfl) d_X12_fold_67 (s_X12_nodes (μ := μ)  hw12_r0 ?_)
  show G X (Rm (d + 3)) mX12_fold 70 [(2, .int v0), (0, .ref r0)] [.int (e_X12_nodes μ r0)] μ 0 0 K
  refine G_istore_n (L' := [(3, .int (e_X12_nodes μ r0)), (2, .int v0), (0, .ref r0)]) d_X12_fold_70 rfl (by decide) rfl ?_
  refine G_iconst d_X12_fold_71 ic_0 ?_
  refine G_istore (L' := [(4, .int (nI 0)), (3, .int (e_X12_nodes μ r0)), (2, .int v0), (0, .ref r0)]) d_X12_fold_72 (by decide) rfl ?_
  refine G_sub (L' := [(0, .ref r0), (2, .int v0), (3, .int (e_X12_nodes μ r0)), (4, .int (nI 0))]) [3, 2, 1, 0] rfl ?_
  exact h
theorem b_X12_fold_74 {X : cX} {d : Nat} {μ : mM} {K : Option Value → mM → Prop} {r0 : Nat} {l2 : Int32} {l3 : Int32} {l4 : Int32} (h : (61 : Int32) ≤ l4 → G X (Rm (d + 3)) mX12_fold 121 [(0, .ref r0), (2, .int l2), (3, .int l3), (4, .int (nI 0))] [] μ 0 0 K) (hw12_r0 : WF12 μ r0) (h_2 : ¬ (61 : Int32) ≤ l4 → l4 < (24 : Int32) → G X (Rm (d + 3)) mX12_fold 110 [(0, .ref r0), (2, .int l2), (3, .int l3), (4, .int l4)] [.int ((305 : Int32) + l4), .ref (r0 + 1)] μ 0 0 K) (h_3 : ¬ (61 : Int32) ≤ l4 → ¬ l4 < (24 : Int32) → (60 : Int32) ≤ l4 → G X (Rm (d + 3)) mX12_fold 110 [(0, .ref r0), (2, .int l2), (3, .int l3), (4, .int l4)] [.int ((305 : Int32) + l4), .ref (r0 + 1)] μ 0 0 K) (h_4 : ¬ (61 : Int32) ≤ l4 → ¬ l4 < (24 : Int32) → ¬ (60 : Int32) ≤ l4 → G X (Rm (d + 3)) mX12_fold 111 [(0, .ref r0), (2, .int l2), (3, .int l3), (4, .int l4)] [.int (-4), .int ((305 : Int32) + l4), .ref (r0 + 1)] μ 0 0 K) : G X (Rm (d + 3)) mX12_fold 74 [(0, .ref r0), (2, .int l2), (3, .int l3), (4, .int l4)] [] μ 0 0 K := by
  refine G_iload d_X12_fold_74 3 rfl ?_
  refine G_bipush d_X12_fold_76 bp_61 ?_
  refine G_icmp_ge (tgt := 118) d_X12_fold_78 rfl (fun c0 => ?_) (fun c0 => ?_)
  ·
    refine G_iconst d_X12_fold_118 ic_0 ?_
    refine G_istore (L' := [(4, .int (nI 0)), (0, .ref r0), (2, .int l2), (3, .int l3)]) d_X12_fold_119 (by decide) rfl ?_
    refine G_sub (L' := [(0, .ref r0), (2, .int l2), (3, .int l3), (4, .int (nI 0))]) [1, 2, 3, 0] rfl ?_
    exact (h c0)
  ·
    refine G_aload_n d_X12_fold_81 rfl 0 rfl ?_
    refine G_getR (r := r0 + 1) 12 0 (w12_kd hw12_r0) (w12_f0 hw12_r0) cok12 (by decide) rfl fl_X12_7 d_X12_fold_82 ?_
    refine G_sipush d_X12_fold_85 sp_305 ?_
    refine G_iload d_X12_fold_88 3 rfl ?_
    refine G_iadd d_X12_fold_90 ?_
    refine G_iload d_X12_fold_91 3 rfl ?_
    refine G_bipush d_X12_fold_93 bp_24 ?_
    refine G_icmp_lt (tgt := 110) d_X12_fold_95 rfl (fun c1 => ?_) (fun c1 => ?_)
    ·
      exact (h_2 c0 c1)
    ·
      refine G_iload d_X12_fold_98 3 rfl ?_
      refine G_bipush d_X12_fold_100 bp_60 ?_
      refine G_icmp_ge (tgt := 110) d_X12_fold_102 rfl (fun c2 => ?_) (fun c2 => ?_)
      ·
        exact (h_3 c0 c1 c2)
      ·
        refine G_bipush d_X12_fold_105 bp_m4 ?_
        refine G_goto (tgt := 111) d_X12_fold_107 rfl ?_
        exact (h_4 c0 c1 c2)
theorem b_X12_fold_110 {X : cX} {d : Nat} {μ : mM} {K : Option Value → mM → Prop} {r0 : Nat} {l2 : Int32} {l3 : Int32} {l4 : Int32} {q0 : Nat} {v1 : Int32} (h : G X (Rm (d + 3)) mX12_fold 111 [(0, .ref r0), (2, .int l2), (3, .int l3), (4, .int l4)] [.int 0, .int v1, .ref q0] μ 0 0 K) : G X (Rm (d + 3)) mX12_fold 110 [(0, .ref r0), (2, .int l2), (3, .int l3), (4, .int l4)] [.int v1, .ref q0] μ 0 0 K := by
  refine G_iconst d_X12_fold_110 ic_0 ?_
  exact h
theorem b_X12_fold_111 {X : cX} {d : Nat} {μ : mM} {K : Option Value → mM → Prop} {r0 : Nat} {l2 : Int32} {l3 : Int32} {i4 : Nat} {q0 : Nat} {v1 : Int32} {v2 : Int32} {n0 : Nat} {j0 : Nat} (hk_q0 : kd μ q0 = (1, n0)) (hi_j0 : v1 = nI j0) (hb : j0 < n0) (h : G X (Rm (d + 3)) mX12_fold 74 [(0, .ref r0), (2, .int l2), (3, .int l3), (4, .int (nI (i4 + 1)))] [] (wi μ q0 j0 v2) 0 0 K) : G X (Rm (d + 3)) mX12_fold 111 [(0, .ref r0), (2, .int l2), (3, .int l3), (4, .int (nI i4))] [.int v2, .int v1, .ref q0] μ 0 0 K := by
  refine G_iast j0 hk_q0 hi_j0 hb d_X12_fold_111 ?_
  refine G_iinc (L' := [(4, .int (nI (i4 + 1))), (0, .ref r0), (2, .int l2), (3, .int l3)]) d_X12_fold_112 3 rfl (inc1 i4) (by decide) rfl ?_
  refine G_goto (tgt := 74) d_X12_fold_115 rfl ?_
  refine G_sub (L' := [(0, .ref r0), (2, .int l2), (3, .int l3), (4, .int (nI (i4 + 1)))]) [1, 2, 3, 0] rfl ?_
  exact h
theorem b_X12_fold_121 {X : cX} {d : Nat} {μ : mM} {K : Option Value → mM → Prop} {r0 : Nat} {l2 : Int32} {l3 : Int32} {i4 : Nat} (h : l3 ≤ (nI i4) → G X (Rm (d + 3)) mX12_fold 339 [(0, .ref r0), (2, .int l2), (4, .int (nI 24))] [] μ 0 0 K) (hw12_r0 : WF12 μ r0) (hb : ¬ l3 ≤ (nI i4) → i4 < 6) (h_2 : ¬ l3 ≤ (nI i4) → G X (Rm (d + 3)) mX12_fold 142 [(0, .ref r0), (2, .int l2), (3, .int l3), (4, .int (nI i4)), (5, .int (iv μ (r0 + 10) i4)), (6, .int 1), (7, .int (nI 0))] [] μ 0 0 K) : G X (Rm (d + 3)) mX12_fold 121 [(0, .ref r0), (2, .int l2), (3, .int l3), (4, .int (nI i4))] [] μ 0 0 K := by
  refine G_iload d_X12_fold_121 3 rfl ?_
  refine G_iload_n d_X12_fold_123 rfl 2 rfl ?_
  refine G_icmp_ge (tgt := 335) d_X12_fold_124 rfl (fun c0 => ?_) (fun c0 => ?_)
  ·
    refine G_bipush d_X12_fold_335 bp_24 ?_
    refine G_istore (L' := [(4, .int (nI 24)), (0, .ref r0), (2, .int l2), (3, .int l3)]) d_X12_fold_337 (by decide) rfl ?_
    refine G_sub (L' := [(0, .ref r0), (2, .int l2), (4, .int (nI 24))]) [1, 2, 0] rfl ?_
    exact (h c0)
  ·
    refine G_aload_n d_X12_fold_127 rfl 0 rfl ?_
    refine G_getR (r := r0 + 10) 12 20 (w12_kd hw12_r0) (w12_f20 hw12_r0) cok12 (by decide) rfl fl_X12_37 d_X12_fold_128 ?_
    refine G_iload d_X12_fold_131 3 rfl ?_
    refine G_iald i4 (w12_k20 hw12_r0) rfl (hb c0) d_X12_fold_133 ?_
    refine G_istore (L' := [(5, .int (iv μ (r0 + 10) i4)), (0, .ref r0), (2, .int l2), (3, .int l3), (4, .int (nI i4))]) d_X12_fold_134 (by decide) rfl ?_
    refine G_iconst d_X12_fold_136 ic_1 ?_
    refine G_istore (L' := [(6, .int 1), (5, .int (iv μ (r0 + 10) i4)), (0, .ref r0), (2, .int l2), (3, .int l3), (4, .int (nI i4))]) d_X12_fold_137 (by decide) rfl ?_
    refine G_iconst d_X12_fold_139 ic_0 ?_
    refine G_istore (L' := [(7, .int (nI 0)), (6, .int 1), (5, .int (iv μ (r0 + 10) i4)), (0, .ref r0), (2, .int l2), (3, .int l3), (4, .int (nI i4))]) d_X12_fold_140 (by decide) rfl ?_
    refine G_sub (L' := [(0, .ref r0), (2, .int l2), (3, .int l3), (4, .int (nI i4)), (5, .int (iv μ (r0 + 10) i4)), (6, .int 1), (7, .int (nI 0))]) [3, 4, 5, 6, 2, 1, 0] rfl ?_
    exact (h_2 c0)
theorem b_X12_fold_142 {X : cX} {d : Nat} {μ : mM} {K : Option Value → mM → Prop} {r0 : Nat} {l2 : Int32} {l3 : Int32} {i4 : Nat} {l5 : Int32} {l6 : Int32} {i7 : Nat} (hw12_r0 : WF12 μ r0) (h : (nI i4) ≤ (nI i7) → l6 = 0 → G X (Rm (d + 3)) mX12_fold 205 [(0, .ref r0), (2, .int l2), (3, .int l3), (4, .int (nI i4)), (5, .int l5)] [.int 1, .int ((305 : Int32) + l5), .ref (r0 + 1)] μ 0 0 K) (hb : (nI i4) ≤ (nI i7) → ¬ l6 = 0 → i4 < 366) (h_2 : (nI i4) ≤ (nI i7) → ¬ l6 = 0 → G X (Rm (d + 3)) mX12_fold 205 [(0, .ref r0), (2, .int l2), (3, .int l3), (4, .int (nI i4)), (5, .int l5)] [.int (iv μ (r0 + 1) i4), .int ((305 : Int32) + l5), .ref (r0 + 1)] μ 0 0 K) (h_3 : ¬ (nI i4) ≤ (nI i7) → l6 = 0 → G X (Rm (d + 3)) mX12_fold 170 [(0, .ref r0), (2, .int l2), (3, .int l3), (4, .int (nI i4)), (5, .int l5), (7, .int (nI i7))] [] μ 0 0 K) (hb_2 : ¬ (nI i4) ≤ (nI i7) → ¬ l6 = 0 → i7 < 6) (h_4 : ¬ (nI i4) ≤ (nI i7) → ¬ l6 = 0 → (iv μ (r0 + 10) i7) = l5 → G X (Rm (d + 3)) mX12_fold 170 [(0, .ref r0), (2, .int l2), (3, .int l3), (4, .int (nI i4)), (5, .int l5), (7, .int (nI i7))] [] μ 0 0 K) (h_5 : ¬ (nI i4) ≤ (nI i7) → ¬ l6 = 0 → ¬ (iv μ (r0 + 10) i7) = l5 → G X (Rm (d + 3)) mX12_fold 171 [(0, .ref r0), (2, .int l2), (3, .int l3), (4, .int (nI i4)), (5, .int l5), (7, .int (nI i7))] [.int 1] μ 0 0 K) : G X (Rm (d + 3)) mX12_fold 142 [(0, .ref r0), (2, .int l2), (3, .int l3), (4, .int (nI i4)), (5, .int l5), (6, .int l6), (7, .int (nI i7))] [] μ 0 0 K := by
  refine G_iload d_X12_fold_142 6 rfl ?_
  refine G_iload d_X12_fold_144 3 rfl ?_
  refine G_icmp_ge (tgt := 179) d_X12_fold_146 rfl (fun c0 => ?_) (fun c0 => ?_)
  ·
    refine G_aload_n d_X12_fold_179 rfl 0 rfl ?_
    refine G_getR (r := r0 + 1) 12 0 (w12_kd hw12_r0) (w12_f0 hw12_r0) cok12 (by decide) rfl fl_X12_7 d_X12_fold_180 ?_
    refine G_sipush d_X12_fold_183 sp_305 ?_
    refine G_iload d_X12_fold_186 4 rfl ?_
    refine G_iadd d_X12_fold_188 ?_
    refine G_iload d_X12_fold_189 5 rfl ?_
    refine G_if_eq (tgt := 204) d_X12_fold_191 rfl (fun c1 => ?_) (fun c1 => ?_)
    ·
      refine G_iconst d_X12_fold_204 ic_1 ?_
      refine G_sub (L' := [(0, .ref r0), (2, .int l2), (3, .int l3), (4, .int (nI i4)), (5, .int l5)]) [0, 1, 2, 3, 4] rfl ?_
      exact (h c0 c1)
    ·
      refine G_aload_n d_X12_fold_194 rfl 0 rfl ?_
      refine G_getR (r := r0 + 1) 12 0 (w12_kd hw12_r0) (w12_f0 hw12_r0) cok12 (by decide) rfl fl_X12_7 d_X12_fold_195 ?_
      refine G_iload d_X12_fold_198 3 rfl ?_
      refine G_iald i4 (w12_k0 hw12_r0) rfl (hb c0 c1) d_X12_fold_200 ?_
      refine G_goto (tgt := 205) d_X12_fold_201 rfl ?_
      refine G_sub (L' := [(0, .ref r0), (2, .int l2), (3, .int l3), (4, .int (nI i4)), (5, .int l5)]) [0, 1, 2, 3, 4] rfl ?_
      exact (h_2 c0 c1)
  ·
    refine G_iload d_X12_fold_149 5 rfl ?_
    refine G_if_eq (tgt := 170) d_X12_fold_151 rfl (fun c1 => ?_) (fun c1 => ?_)
    ·
      refine G_sub (L' := [(0, .ref r0), (2, .int l2), (3, .int l3), (4, .int (nI i4)), (5, .int l5), (7, .int (nI i7))]) [0, 1, 2, 3, 4, 6] rfl ?_
      exact (h_3 c0 c1)
    ·
      refine G_aload_n d_X12_fold_154 rfl 0 rfl ?_
      refine G_getR (r := r0 + 10) 12 20 (w12_kd hw12_r0) (w12_f20 hw12_r0) cok12 (by decide) rfl fl_X12_37 d_X12_fold_155 ?_
      refine G_iload d_X12_fold_158 6 rfl ?_
      refine G_iald i7 (w12_k20 hw12_r0) rfl (hb_2 c0 c1) d_X12_fold_160 ?_
      refine G_iload d_X12_fold_161 4 rfl ?_
      refine G_icmp_eq (tgt := 170) d_X12_fold_163 rfl (fun c2 => ?_) (fun c2 => ?_)
      ·
        refine G_sub (L' := [(0, .ref r0), (2, .int l2), (3, .int l3), (4, .int (nI i4)), (5, .int l5), (7, .int (nI i7))]) [0, 1, 2, 3, 4, 6] rfl ?_
        exact (h_4 c0 c1 c2)
      ·
        refine G_iconst d_X12_fold_166 ic_1 ?_
        refine G_goto (tgt := 171) d_X12_fold_167 rfl ?_
        refine G_sub (L' := [(0, .ref r0), (2, .int l2), (3, .int l3), (4, .int (nI i4)), (5, .int l5), (7, .int (nI i7))]) [0, 1, 2, 3, 4, 6] rfl ?_
        exact (h_5 c0 c1 c2)
theorem b_X12_fold_170 {X : cX} {d : Nat} {μ : mM} {K : Option Value → mM → Prop} {r0 : Nat} {l2 : Int32} {l3 : Int32} {l4 : Int32} {l5 : Int32} {l7 : Int32} (h : G X (Rm (d + 3)) mX12_fold 171 [(0, .ref r0), (2, .int l2), (3, .int l3), (4, .int l4), (5, .int l5), (7, .int l7)] [.int 0] μ 0 0 K) : G X (Rm (d + 3)) mX12_fold 170 [(0, .ref r0), (2, .int l2), (3, .int l3), (4, .int l4), (5, .int l5), (7, .int l7)] [] μ 0 0 K := by
  refine G_iconst d_X12_fold_170 ic_0 ?_
  exact h
theorem b_X12_fold_171 {X : cX} {d : Nat} {μ : mM} {K : Option Value → mM → Prop} {r0 : Nat} {l2 : Int32} {l3 : Int32} {l4 : Int32} {l5 : Int32} {i7 : Nat} {v0 : Int32} (h : G X (Rm (d + 3)) mX12_fold 142 [(0, .ref r0), (2, .int l2), (3, .int l3), (4, .int l4), (5, .int l5), (6, .int v0), (7, .int (nI (i7 + 1)))] [] μ 0 0 K) : G X (Rm (d + 3)) mX12_fold 171 [(0, .ref r0), (2, .int l2), (3, .int l3), (4, .int l4), (5, .int l5), (7, .int (nI i7))] [.int v0] μ 0 0 K := by
  refine G_istore (L' := [(6, .int v0), (0, .ref r0), (2, .int l2), (3, .int l3), (4, .int l4), (5, .int l5), (7, .int (nI i7))]) d_X12_fold_171 (by decide) rfl ?_
  refine G_iinc (L' := [(7, .int (nI (i7 + 1))), (6, .int v0), (0, .ref r0), (2, .int l2), (3, .int l3), (4, .int l4), (5, .int l5)]) d_X12_fold_173 6 rfl (inc1 i7) (by decide) rfl ?_
  refine G_goto (tgt := 142) d_X12_fold_176 rfl ?_
  refine G_sub (L' := [(0, .ref r0), (2, .int l2), (3, .int l3), (4, .int l4), (5, .int l5), (6, .int v0), (7, .int (nI (i7 + 1)))]) [2, 3, 4, 5, 6, 1, 0] rfl ?_
  exact h
theorem b_X12_fold_205 {X : cX} {d : Nat} {μ : mM} {K : Option Value → mM → Prop} {r0 : Nat} {l2 : Int32} {l3 : Int32} {l4 : Int32} {l5 : Int32} {q0 : Nat} {v1 : Int32} {v2 : Int32} {n0 : Nat} {j0 : Nat} (hk_q0 : kd μ q0 = (1, n0)) (hi_j0 : v1 = nI j0) (hb : j0 < n0) (h : G X (Rm (d + 3)) mX12_fold 209 [(0, .ref r0), (2, .int l2), (3, .int l3), (4, .int l4), (5, .int l5), (7, .int (nI 0))] [] (wi μ q0 j0 v2) 0 0 K) : G X (Rm (d + 3)) mX12_fold 205 [(0, .ref r0), (2, .int l2), (3, .int l3), (4, .int l4), (5, .int l5)] [.int v2, .int v1, .ref q0] μ 0 0 K := by
  refine G_iast j0 hk_q0 hi_j0 hb d_X12_fold_205 ?_
  refine G_iconst d_X12_fold_206 ic_0 ?_
  refine G_istore (L' := [(7, .int (nI 0)), (0, .ref r0), (2, .int l2), (3, .int l3), (4, .int l4), (5, .int l5)]) d_X12_fold_207 (by decide) rfl ?_
  refine G_sub (L' := [(0, .ref r0), (2, .int l2), (3, .int l3), (4, .int l4), (5, .int l5), (7, .int (nI 0))]) [1, 2, 3, 4, 5, 0] rfl ?_
  exact h
theorem b_X12_fold_209 {X : cX} {d : Nat} {μ : mM} {K : Option Value → mM → Prop} {r0 : Nat} {l2 : Int32} {l3 : Int32} {i4 : Nat} {l5 : Int32} {i7 : Nat} {j0 : Nat} (h : (3 : Int32) ≤ (nI i7) → G X (Rm (d + 3)) mX12_fold 249 [(0, .ref r0), (2, .int l2), (3, .int l3), (4, .int (nI i4)), (5, .int l5), (7, .int (nI 0))] [] μ 0 0 K) (hw12_r0 : WF12 μ r0) (hs : ¬ (3 : Int32) ≤ (nI i7) → ((6 + (6 * i7)) + i4) < 366) (hi_j0 : ¬ (3 : Int32) ≤ (nI i7) → ((311 : Int32) + ((6 : Int32) * (nI i7))) + l5 = nI j0) (hb : ¬ (3 : Int32) ≤ (nI i7) → j0 < 366) (h_2 : ¬ (3 : Int32) ≤ (nI i7) → G X (Rm (d + 3)) mX12_fold 209 [(0, .ref r0), (2, .int l2), (3, .int l3), (4, .int (nI i4)), (5, .int l5), (7, .int (nI (i7 + 1)))] [] (wi μ (r0 + 1) j0 (e_X12_atOf μ r0 i7 i4)) 0 0 K) : G X (Rm (d + 3)) mX12_fold 209 [(0, .ref r0), (2, .int l2), (3, .int l3), (4, .int (nI i4)), (5, .int l5), (7, .int (nI i7))] [] μ 0 0 K := by
  refine G_iload d_X12_fold_209 5 rfl ?_
  refine G_iconst d_X12_fold_211 ic_3 ?_
  refine G_icmp_ge (tgt := 246) d_X12_fold_212 rfl (fun c0 => ?_) (fun c0 => ?_)
  ·
    refine G_iconst d_X12_fold_246 ic_0 ?_
    refine G_istore (L' := [(7, .int (nI 0)), (0, .ref r0), (2, .int l2), (3, .int l3), (4, .int (nI i4)), (5, .int l5)]) d_X12_fold_247 (by decide) rfl ?_
    refine G_sub (L' := [(0, .ref r0), (2, .int l2), (3, .int l3), (4, .int (nI i4)), (5, .int l5), (7, .int (nI 0))]) [1, 2, 3, 4, 5, 0] rfl ?_
    exact (h c0)
  ·
    refine G_aload_n d_X12_fold_215 rfl 0 rfl ?_
    refine G_getR (r := r0 + 1) 12 0 (w12_kd hw12_r0) (w12_f0 hw12_r0) cok12 (by decide) rfl fl_X12_7 d_X12_fold_216 ?_
    refine G_sipush d_X12_fold_219 sp_311 ?_
    refine G_bipush d_X12_fold_222 bp_6 ?_
    refine G_iload d_X12_fold_224 5 rfl ?_
    refine G_imul d_X12_fold_226 ?_
    refine G_iadd d_X12_fold_227 ?_
    refine G_iload d_X12_fold_228 4 rfl ?_
    refine G_iadd d_X12_fold_230 ?_
    refine G_aload_n d_X12_fold_231 rfl 0 rfl ?_
    refine G_iload d_X12_fold_232 5 rfl ?_
    refine G_iload d_X12_fold_234 3 rfl ?_
    refine G_callV (M' := mX12_atOf) (R' := (Rm (d + 2))) (S := [.int (((311 : Int32) + ((6 : Int32) * (nI i7))) + l5), .ref (r0 + 1)]) [.int (nI i7), .int (nI i4)] 12 (w12_kd hw12_r0) cok12 rfl ok_X12_atOf ml_X12_178 pn_X12_atOf (ru_Rm (by decide)) (Nat.le_of_ble_eq_true rfl) d_X12_fold_236 (s_X12_atOf (μ := μ) (i1 := i7) (i2 := i4) hw12_r0 (hs c0) ?_)
    show G X (Rm (d + 3)) mX12_fold 239 [(0, .ref r0), (2, .int l2), (3, .int l3), (4, .int (nI i4)), (5, .int l5), (7, .int (nI i7))] [.int (e_X12_atOf μ r0 i7 i4), .int (((311 : Int32) + ((6 : Int32) * (nI i7))) + l5), .ref (r0 + 1)] μ 0 0 K
    refine G_iast j0 (w12_k0 hw12_r0) (hi_j0 c0) (hb c0) d_X12_fold_239 ?_
    refine G_iinc (L' := [(7, .int (nI (i7 + 1))), (0, .ref r0), (2, .int l2), (3, .int l3), (4, .int (nI i4)), (5, .int l5)]) d_X12_fold_240 5 rfl (inc1 i7) (by decide) rfl ?_
    refine G_goto (tgt := 209) d_X12_fold_243 rfl ?_
    refine G_sub (L' := [(0, .ref r0), (2, .int l2), (3, .int l3), (4, .int (nI i4)), (5, .int l5), (7, .int (nI (i7 + 1)))]) [1, 2, 3, 4, 5, 0] rfl ?_
    exact (h_2 c0)
theorem b_X12_fold_249 {X : cX} {d : Nat} {μ : mM} {K : Option Value → mM → Prop} {r0 : Nat} {l2 : Int32} {l3 : Int32} {i4 : Nat} {l5 : Int32} {i7 : Nat} {j0 : Nat} (h : l3 ≤ (nI i7) → G X (Rm (d + 3)) mX12_fold 121 [(0, .ref r0), (2, .int l2), (3, .int l3), (4, .int (nI (i4 + 1)))] [] μ 0 0 K) (hw12_r0 : WF12 μ r0) (hb : ¬ l3 ≤ (nI i7) → i7 < 6) (hi_j0 : ¬ l3 ≤ (nI i7) → ((329 : Int32) + ((6 : Int32) * l5)) + (iv μ (r0 + 10) i7) = nI j0) (hb_2 : ¬ l3 ≤ (nI i7) → j0 < 366) (h_2 : ¬ l3 ≤ (nI i7) → (iv μ (r0 + 1) j0) = ((-4) : Int32) → G X (Rm (d + 3)) mX12_fold 310 [(0, .ref r0), (2, .int l2), (3, .int l3), (4, .int (nI i4)), (5, .int l5), (7, .int (nI i7))] [.int (((329 : Int32) + ((6 : Int32) * l5)) + (iv μ (r0 + 10) i7)), .ref (r0 + 1)] μ 0 0 K) (hi_j0_2 : ¬ l3 ≤ (nI i7) → ¬ (iv μ (r0 + 1) j0) = ((-4) : Int32) → ((329 : Int32) + ((6 : Int32) * l5)) + (iv μ (r0 + 10) i7) = nI j0) (hb_3 : ¬ l3 ≤ (nI i7) → ¬ (iv μ (r0 + 1) j0) = ((-4) : Int32) → j0 < 366) (hs : ¬ l3 ≤ (nI i7) → ¬ (iv μ (r0 + 1) j0) = ((-4) : Int32) → ((24 + (6 * i4)) + i7) < 366) (h_3 : ¬ l3 ≤ (nI i7) → ¬ (iv μ (r0 + 1) j0) = ((-4) : Int32) → ¬ (iv μ (r0 + 1) j0) = (e_X12_nextOf μ r0 i4 i7) → G X (Rm (d + 3)) mX12_fold 322 [(0, .ref r0), (2, .int l2), (3, .int l3), (4, .int (nI i4)), (5, .int l5), (7, .int (nI i7))] [.int 1, .int (((329 : Int32) + ((6 : Int32) * l5)) + (iv μ (r0 + 10) i7)), .ref (r0 + 1)] μ 0 0 K) (h_4 : ¬ l3 ≤ (nI i7) → ¬ (iv μ (r0 + 1) j0) = ((-4) : Int32) → (iv μ (r0 + 1) j0) = (e_X12_nextOf μ r0 i4 i7) → G X (Rm (d + 3)) mX12_fold 310 [(0, .ref r0), (2, .int l2), (3, .int l3), (4, .int (nI i4)), (5, .int l5), (7, .int (nI i7))] [.int (((329 : Int32) + ((6 : Int32) * l5)) + (iv μ (r0 + 10) i7)), .ref (r0 + 1)] μ 0 0 K) : G X (Rm (d + 3)) mX12_fold 249 [(0, .ref r0), (2, .int l2), (3, .int l3), (4, .int (nI i4)), (5, .int l5), (7, .int (nI i7))] [] μ 0 0 K := by
  refine G_iload d_X12_fold_249 5 rfl ?_
  refine G_iload_n d_X12_fold_251 rfl 2 rfl ?_
  refine G_icmp_ge (tgt := 329) d_X12_fold_252 rfl (fun c0 => ?_) (fun c0 => ?_)
  ·
    refine G_iinc (L' := [(4, .int (nI (i4 + 1))), (0, .ref r0), (2, .int l2), (3, .int l3), (5, .int l5), (7, .int (nI i7))]) d_X12_fold_329 3 rfl (inc1 i4) (by decide) rfl ?_
    refine G_goto (tgt := 121) d_X12_fold_332 rfl ?_
    refine G_sub (L' := [(0, .ref r0), (2, .int l2), (3, .int l3), (4, .int (nI (i4 + 1)))]) [1, 2, 3, 0] rfl ?_
    exact (h c0)
  ·
    refine G_sipush d_X12_fold_255 sp_329 ?_
    refine G_bipush d_X12_fold_258 bp_6 ?_
    refine G_iload d_X12_fold_260 4 rfl ?_
    refine G_imul d_X12_fold_262 ?_
    refine G_iadd d_X12_fold_263 ?_
    refine G_aload_n d_X12_fold_264 rfl 0 rfl ?_
    refine G_getR (r := r0 + 10) 12 20 (w12_kd hw12_r0) (w12_f20 hw12_r0) cok12 (by decide) rfl fl_X12_37 d_X12_fold_265 ?_
    refine G_iload d_X12_fold_268 5 rfl ?_
    refine G_iald i7 (w12_k20 hw12_r0) rfl (hb c0) d_X12_fold_270 ?_
    refine G_iadd d_X12_fold_271 ?_
    refine G_istore (L' := [(8, .int (((329 : Int32) + ((6 : Int32) * l5)) + (iv μ (r0 + 10) i7))), (0, .ref r0), (2, .int l2), (3, .int l3), (4, .int (nI i4)), (5, .int l5), (7, .int (nI i7))]) d_X12_fold_272 (by decide) rfl ?_
    refine G_aload_n d_X12_fold_274 rfl 1 rfl ?_
    refine G_getR (r := r0 + 1) 12 0 (w12_kd hw12_r0) (w12_f0 hw12_r0) cok12 (by decide) rfl fl_X12_7 d_X12_fold_275 ?_
    refine G_iload d_X12_fold_278 0 rfl ?_
    refine G_aload_n d_X12_fold_280 rfl 1 rfl ?_
    refine G_getR (r := r0 + 1) 12 0 (w12_kd hw12_r0) (w12_f0 hw12_r0) cok12 (by decide) rfl fl_X12_7 d_X12_fold_281 ?_
    refine G_iload d_X12_fold_284 0 rfl ?_
    refine G_iald j0 (w12_k0 hw12_r0) (hi_j0 c0) (hb_2 c0) d_X12_fold_286 ?_
    refine G_bipush d_X12_fold_287 bp_m4 ?_
    refine G_icmp_eq (tgt := 310) d_X12_fold_289 rfl (fun c1 => ?_) (fun c1 => ?_)
    ·
      refine G_sub (L' := [(0, .ref r0), (2, .int l2), (3, .int l3), (4, .int (nI i4)), (5, .int l5), (7, .int (nI i7))]) [1, 2, 3, 4, 5, 6] rfl ?_
      exact (h_2 c0 c1)
    ·
      refine G_aload_n d_X12_fold_292 rfl 1 rfl ?_
      refine G_getR (r := r0 + 1) 12 0 (w12_kd hw12_r0) (w12_f0 hw12_r0) cok12 (by decide) rfl fl_X12_7 d_X12_fold_293 ?_
      refine G_iload d_X12_fold_296 0 rfl ?_
      refine G_iald j0 (w12_k0 hw12_r0) (hi_j0_2 c0 c1) (hb_3 c0 c1) d_X12_fold_298 ?_
      refine G_aload_n d_X12_fold_299 rfl 1 rfl ?_
      refine G_iload d_X12_fold_300 4 rfl ?_
      refine G_iload d_X12_fold_302 6 rfl ?_
      refine G_callV (M' := mX12_nextOf) (R' := (Rm (d + 2))) (S := [.int (iv μ (r0 + 1) j0), .int (((329 : Int32) + ((6 : Int32) * l5)) + (iv μ (r0 + 10) i7)), .ref (r0 + 1)]) [.int (nI i4), .int (nI i7)] 12 (w12_kd hw12_r0) cok12 rfl ok_X12_nextOf ml_X12_204 pn_X12_nextOf (ru_Rm (by decide)) (Nat.le_of_ble_eq_true rfl) d_X12_fold_304 (s_X12_nextOf (μ := μ) (i1 := i4) (i2 := i7) hw12_r0 (hs c0 c1) ?_)
      show G X (Rm (d + 3)) mX12_fold 307 [(8, .int (((329 : Int32) + ((6 : Int32) * l5)) + (iv μ (r0 + 10) i7))), (0, .ref r0), (2, .int l2), (3, .int l3), (4, .int (nI i4)), (5, .int l5), (7, .int (nI i7))] [.int (e_X12_nextOf μ r0 i4 i7), .int (iv μ (r0 + 1) j0), .int (((329 : Int32) + ((6 : Int32) * l5)) + (iv μ (r0 + 10) i7)), .ref (r0 + 1)] μ 0 0 K
      refine G_icmp_ne (tgt := 321) d_X12_fold_307 rfl (fun c2 => ?_) (fun c2 => ?_)
      ·
        refine G_iconst d_X12_fold_321 ic_1 ?_
        refine G_sub (L' := [(0, .ref r0), (2, .int l2), (3, .int l3), (4, .int (nI i4)), (5, .int l5), (7, .int (nI i7))]) [1, 2, 3, 4, 5, 6] rfl ?_
        exact (h_3 c0 c1 c2)
      ·
        refine G_sub (L' := [(0, .ref r0), (2, .int l2), (3, .int l3), (4, .int (nI i4)), (5, .int l5), (7, .int (nI i7))]) [1, 2, 3, 4, 5, 6] rfl ?_
        exact (h_4 c0 c1 c2)
theorem b_X12_fold_310 {X : cX} {d : Nat} {μ : mM} {K : Option Value → mM → Prop} {r0 : Nat} {l2 : Int32} {l3 : Int32} {i4 : Nat} {l5 : Int32} {i7 : Nat} {q0 : Nat} {v1 : Int32} (hw12_r0 : WF12 μ r0) (hs : ((24 + (6 * i4)) + i7) < 366) (h : G X (Rm (d + 3)) mX12_fold 322 [(0, .ref r0), (2, .int l2), (3, .int l3), (4, .int (nI i4)), (5, .int l5), (7, .int (nI i7))] [.int (e_X12_nextOf μ r0 i4 i7), .int v1, .ref q0] μ 0 0 K) : G X (Rm (d + 3)) mX12_fold 310 [(0, .ref r0), (2, .int l2), (3, .int l3), (4, .int (nI i4)), (5, .int l5), (7, .int (nI i7))] [.int v1, .ref q0] μ 0 0 K := by
  refine G_aload_n d_X12_fold_310 rfl 0 rfl ?_
  refine G_iload d_X12_fold_311 3 rfl ?_
  refine G_iload d_X12_fold_313 5 rfl ?_
  refine G_callV (M' := mX12_nextOf) (R' := (Rm (d + 2))) (S := [.int v1, .ref q0]) [.int (nI i4), .int (nI i7)] 12 (w12_kd hw12_r0) cok12 rfl ok_X12_nextOf ml_X12_204 pn_X12_nextOf (ru_Rm (by decide)) (Nat.le_of_ble_eq_true rfl) d_X12_fold_315 (s_X12_nextOf (μ := μ) (i1 := i4) (i2 := i7) hw12_r0 hs ?_)
  show G X (Rm (d + 3)) mX12_fold 318 [(0, .ref r0), (2, .int l2), (3, .int l3), (4, .int (nI i4)), (5, .int l5), (7, .int (nI i7))] [.int (e_X12_nextOf μ r0 i4 i7), .int v1, .ref q0] μ 0 0 K
  refine G_goto (tgt := 322) d_X12_fold_318 rfl ?_
  exact h
theorem b_X12_fold_322 {X : cX} {d : Nat} {μ : mM} {K : Option Value → mM → Prop} {r0 : Nat} {l2 : Int32} {l3 : Int32} {l4 : Int32} {l5 : Int32} {i7 : Nat} {q0 : Nat} {v1 : Int32} {v2 : Int32} {n0 : Nat} {j0 : Nat} (hk_q0 : kd μ q0 = (1, n0)) (hi_j0 : v1 = nI j0) (hb : j0 < n0) (h : G X (Rm (d + 3)) mX12_fold 249 [(0, .ref r0), (2, .int l2), (3, .int l3), (4, .int l4), (5, .int l5), (7, .int (nI (i7 + 1)))] [] (wi μ q0 j0 v2) 0 0 K) : G X (Rm (d + 3)) mX12_fold 322 [(0, .ref r0), (2, .int l2), (3, .int l3), (4, .int l4), (5, .int l5), (7, .int (nI i7))] [.int v2, .int v1, .ref q0] μ 0 0 K := by
  refine G_iast j0 hk_q0 hi_j0 hb d_X12_fold_322 ?_
  refine G_iinc (L' := [(7, .int (nI (i7 + 1))), (0, .ref r0), (2, .int l2), (3, .int l3), (4, .int l4), (5, .int l5)]) d_X12_fold_323 5 rfl (inc1 i7) (by decide) rfl ?_
  refine G_goto (tgt := 249) d_X12_fold_326 rfl ?_
  refine G_sub (L' := [(0, .ref r0), (2, .int l2), (3, .int l3), (4, .int l4), (5, .int l5), (7, .int (nI (i7 + 1)))]) [1, 2, 3, 4, 5, 0] rfl ?_
  exact h
theorem b_X12_fold_339 {X : cX} {d : Nat} {μ : mM} {K : Option Value → mM → Prop} {r0 : Nat} {l2 : Int32} {i4 : Nat} (hw12_r0 : WF12 μ r0) (hc_copies : (60 : Int32) ≤ (nI i4) → Ct X (Rm (d + 2)) mX12_copies [.ref r0, .int 305, .int 0] (wi μ (r0 + 1) 365 l2) (fun r μ2 => G X (Rm (d + 3)) mX12_fold 411 [(2, .int l2)] (r.toList ++ []) μ2 0 0 K)) (hb : ¬ (60 : Int32) ≤ (nI i4) → (305 + i4) < 366) (hb_2 : ¬ (60 : Int32) ≤ (nI i4) → ¬ (iv μ (r0 + 1) (305 + i4)) = ((-4) : Int32) → (305 + i4) < 366) (h : ¬ (60 : Int32) ≤ (nI i4) → ¬ (iv μ (r0 + 1) (305 + i4)) = ((-4) : Int32) → G X (Rm (d + 3)) mX12_fold 387 [(0, .ref r0), (2, .int l2), (4, .int (nI i4))] [.int (iv μ (r0 + 1) (305 + i4)), .int ((305 : Int32) + (nI i4)), .ref (r0 + 1)] μ 0 0 K) (h_2 : ¬ (60 : Int32) ≤ (nI i4) → (iv μ (r0 + 1) (305 + i4)) = ((-4) : Int32) → G X (Rm (d + 3)) mX12_fold 387 [(0, .ref r0), (2, .int l2), (4, .int (nI i4))] [.int 0, .int ((305 : Int32) + (nI i4)), .ref (r0 + 1)] μ 0 0 K) : G X (Rm (d + 3)) mX12_fold 339 [(0, .ref r0), (2, .int l2), (4, .int (nI i4))] [] μ 0 0 K := by
  refine G_iload d_X12_fold_339 2 rfl ?_
  refine G_bipush d_X12_fold_341 bp_60 ?_
  refine G_icmp_ge (tgt := 394) d_X12_fold_343 rfl (fun c0 => ?_) (fun c0 => ?_)
  ·
    refine G_aload_n d_X12_fold_394 rfl 0 rfl ?_
    refine G_getR (r := r0 + 1) 12 0 (w12_kd hw12_r0) (w12_f0 hw12_r0) cok12 (by decide) rfl fl_X12_7 d_X12_fold_395 ?_
    refine G_sipush d_X12_fold_398 sp_365 ?_
    refine G_iload_n d_X12_fold_401 rfl 1 rfl ?_
    refine G_iast 365 (w12_k0 hw12_r0) rfl (by decide) d_X12_fold_402 ?_
    refine G_aload_n d_X12_fold_403 rfl 0 rfl ?_
    refine G_sipush d_X12_fold_404 sp_305 ?_
    refine G_iconst d_X12_fold_407 ic_0 ?_
    refine G_sub (L' := [(2, .int l2)]) [1] rfl ?_
    refine G_callV (M' := mX12_copies) (R' := (Rm (d + 2))) (S := []) [.int 305, .int 0] 12 (w12_kd hw12_r0) cok12 rfl ok_X12_copies ml_X12_162 pn_X12_copies (ru_Rm (by decide)) (Nat.le_of_ble_eq_true rfl) d_X12_fold_408 ?_
    exact (hc_copies c0)
  ·
    refine G_aload_n d_X12_fold_346 rfl 0 rfl ?_
    refine G_getR (r := r0 + 1) 12 0 (w12_kd hw12_r0) (w12_f0 hw12_r0) cok12 (by decide) rfl fl_X12_7 d_X12_fold_347 ?_
    refine G_sipush d_X12_fold_350 sp_305 ?_
    refine G_iload d_X12_fold_353 2 rfl ?_
    refine G_iadd d_X12_fold_355 ?_
    refine G_aload_n d_X12_fold_356 rfl 0 rfl ?_
    refine G_getR (r := r0 + 1) 12 0 (w12_kd hw12_r0) (w12_f0 hw12_r0) cok12 (by decide) rfl fl_X12_7 d_X12_fold_357 ?_
    refine G_sipush d_X12_fold_360 sp_305 ?_
    refine G_iload d_X12_fold_363 2 rfl ?_
    refine G_iadd d_X12_fold_365 ?_
    refine G_iald (305 + i4) (w12_k0 hw12_r0) (nadd rfl rfl) (hb c0) d_X12_fold_366 ?_
    refine G_bipush d_X12_fold_367 bp_m4 ?_
    refine G_icmp_ne (tgt := 376) d_X12_fold_369 rfl (fun c1 => ?_) (fun c1 => ?_)
    ·
      refine G_aload_n d_X12_fold_376 rfl 0 rfl ?_
      refine G_getR (r := r0 + 1) 12 0 (w12_kd hw12_r0) (w12_f0 hw12_r0) cok12 (by decide) rfl fl_X12_7 d_X12_fold_377 ?_
      refine G_sipush d_X12_fold_380 sp_305 ?_
      refine G_iload d_X12_fold_383 2 rfl ?_
      refine G_iadd d_X12_fold_385 ?_
      refine G_iald (305 + i4) (w12_k0 hw12_r0) (nadd rfl rfl) (hb_2 c0 c1) d_X12_fold_386 ?_
      exact (h c0 c1)
    ·
      refine G_iconst d_X12_fold_372 ic_0 ?_
      refine G_goto (tgt := 387) d_X12_fold_373 rfl ?_
      exact (h_2 c0 c1)
theorem b_X12_fold_387 {X : cX} {d : Nat} {μ : mM} {K : Option Value → mM → Prop} {r0 : Nat} {l2 : Int32} {i4 : Nat} {q0 : Nat} {v1 : Int32} {v2 : Int32} {n0 : Nat} {j0 : Nat} (hk_q0 : kd μ q0 = (1, n0)) (hi_j0 : v1 = nI j0) (hb : j0 < n0) (h : G X (Rm (d + 3)) mX12_fold 339 [(0, .ref r0), (2, .int l2), (4, .int (nI (i4 + 1)))] [] (wi μ q0 j0 v2) 0 0 K) : G X (Rm (d + 3)) mX12_fold 387 [(0, .ref r0), (2, .int l2), (4, .int (nI i4))] [.int v2, .int v1, .ref q0] μ 0 0 K := by
  refine G_iast j0 hk_q0 hi_j0 hb d_X12_fold_387 ?_
  refine G_iinc (L' := [(4, .int (nI (i4 + 1))), (0, .ref r0), (2, .int l2)]) d_X12_fold_388 2 rfl (inc1 i4) (by decide) rfl ?_
  refine G_goto (tgt := 339) d_X12_fold_391 rfl ?_
  refine G_sub (L' := [(0, .ref r0), (2, .int l2), (4, .int (nI (i4 + 1)))]) [1, 2, 0] rfl ?_
  exact h
theorem b_X12_fold_411 {X : cX} {d : Nat} {μ : mM} {K : Option Value → mM → Prop} {l2 : Int32} (hK : K (some (.int l2)) μ) : G X (Rm (d + 3)) mX12_fold 411 [(2, .int l2)] [] μ 0 0 K := by
  refine G_iload_n d_X12_fold_411 rfl 0 rfl ?_
  exact G_iret rfl rfl rfl d_X12_fold_412 hK
theorem d_X12_isAlone_0 : decode cX12_isAlone 0 = .ok (.iconst 0, 1) := by decide +kernel
theorem d_X12_isAlone_1 : decode cX12_isAlone 1 = .ok (.istore_n 3, 1) := by decide +kernel
theorem d_X12_isAlone_2 : decode cX12_isAlone 2 = .ok (.iconst 0, 1) := by decide +kernel
theorem d_X12_isAlone_3 : decode cX12_isAlone 3 = .ok (.istore 4, 2) := by decide +kernel
theorem d_X12_isAlone_5 : decode cX12_isAlone 5 = .ok (.iload 4, 2) := by decide +kernel
theorem d_X12_isAlone_7 : decode cX12_isAlone 7 = .ok (.aload_n 0, 1) := by decide +kernel
theorem d_X12_isAlone_8 : decode cX12_isAlone 8 = .ok (.invokevirtual 169, 3) := by decide +kernel
theorem d_X12_isAlone_11 : decode cX12_isAlone 11 = .ok (.if_icmp .ge 68, 3) := by decide +kernel
theorem d_X12_isAlone_14 : decode cX12_isAlone 14 = .ok (.iload 4, 2) := by decide +kernel
theorem d_X12_isAlone_16 : decode cX12_isAlone 16 = .ok (.iload_n 2, 1) := by decide +kernel
theorem d_X12_isAlone_17 : decode cX12_isAlone 17 = .ok (.if_icmp .eq 56, 3) := by decide +kernel
theorem d_X12_isAlone_20 : decode cX12_isAlone 20 = .ok (.aload_n 0, 1) := by decide +kernel
theorem d_X12_isAlone_21 : decode cX12_isAlone 21 = .ok (.getfield 7, 3) := by decide +kernel
theorem d_X12_isAlone_24 : decode cX12_isAlone 24 = .ok (.iload_n 1, 1) := by decide +kernel
theorem d_X12_isAlone_25 : decode cX12_isAlone 25 = .ok (.iload 4, 2) := by decide +kernel
theorem d_X12_isAlone_27 : decode cX12_isAlone 27 = .ok (.iadd, 1) := by decide +kernel
theorem d_X12_isAlone_28 : decode cX12_isAlone 28 = .ok (.iaload, 1) := by decide +kernel
theorem d_X12_isAlone_29 : decode cX12_isAlone 29 = .ok (.ifCond .eq 44, 3) := by decide +kernel
theorem d_X12_isAlone_32 : decode cX12_isAlone 32 = .ok (.aload_n 0, 1) := by decide +kernel
theorem d_X12_isAlone_33 : decode cX12_isAlone 33 = .ok (.aload_n 0, 1) := by decide +kernel
theorem d_X12_isAlone_34 : decode cX12_isAlone 34 = .ok (.getfield 270, 3) := by decide +kernel
theorem d_X12_isAlone_37 : decode cX12_isAlone 37 = .ok (.ifCond .ne 16, 3) := by decide +kernel
theorem d_X12_isAlone_40 : decode cX12_isAlone 40 = .ok (.aload_n 0, 1) := by decide +kernel
theorem d_X12_isAlone_41 : decode cX12_isAlone 41 = .ok (.getfield 7, 3) := by decide +kernel
theorem d_X12_isAlone_44 : decode cX12_isAlone 44 = .ok (.iload_n 1, 1) := by decide +kernel
theorem d_X12_isAlone_45 : decode cX12_isAlone 45 = .ok (.iload 4, 2) := by decide +kernel
theorem d_X12_isAlone_47 : decode cX12_isAlone 47 = .ok (.iadd, 1) := by decide +kernel
theorem d_X12_isAlone_48 : decode cX12_isAlone 48 = .ok (.iaload, 1) := by decide +kernel
theorem d_X12_isAlone_49 : decode cX12_isAlone 49 = .ok (.iconst 2, 1) := by decide +kernel
theorem d_X12_isAlone_50 : decode cX12_isAlone 50 = .ok (.if_icmp .ne 7, 3) := by decide +kernel
theorem d_X12_isAlone_53 : decode cX12_isAlone 53 = .ok (.iconst 1, 1) := by decide +kernel
theorem d_X12_isAlone_54 : decode cX12_isAlone 54 = .ok (.goto 4, 3) := by decide +kernel
theorem d_X12_isAlone_57 : decode cX12_isAlone 57 = .ok (.iconst 0, 1) := by decide +kernel
theorem d_X12_isAlone_58 : decode cX12_isAlone 58 = .ok (.putfield 270, 3) := by decide +kernel
theorem d_X12_isAlone_61 : decode cX12_isAlone 61 = .ok (.aload_n 0, 1) := by decide +kernel
theorem d_X12_isAlone_62 : decode cX12_isAlone 62 = .ok (.getfield 7, 3) := by decide +kernel
theorem d_X12_isAlone_65 : decode cX12_isAlone 65 = .ok (.iload_n 1, 1) := by decide +kernel
theorem d_X12_isAlone_66 : decode cX12_isAlone 66 = .ok (.iload 4, 2) := by decide +kernel
theorem d_X12_isAlone_68 : decode cX12_isAlone 68 = .ok (.iadd, 1) := by decide +kernel
theorem d_X12_isAlone_69 : decode cX12_isAlone 69 = .ok (.iconst 0, 1) := by decide +kernel
theorem d_X12_isAlone_70 : decode cX12_isAlone 70 = .ok (.iastore, 1) := by decide +kernel
theorem d_X12_isAlone_71 : decode cX12_isAlone 71 = .ok (.iconst 1, 1) := by decide +kernel
theorem d_X12_isAlone_72 : decode cX12_isAlone 72 = .ok (.istore_n 3, 1) := by decide +kernel
theorem d_X12_isAlone_73 : decode cX12_isAlone 73 = .ok (.iinc 4 1, 3) := by decide +kernel
theorem d_X12_isAlone_76 : decode cX12_isAlone 76 = .ok (.goto (-71), 3) := by decide +kernel
theorem d_X12_isAlone_79 : decode cX12_isAlone 79 = .ok (.iload_n 3, 1) := by decide +kernel
theorem d_X12_isAlone_80 : decode cX12_isAlone 80 = .ok (.ireturn, 1) := by decide +kernel
theorem b_X12_isAlone_0 {X : cX} {d : Nat} {μ : mM} {K : Option Value → mM → Prop} {r0 : Nat} {l1 : Int32} {l2 : Int32} (h : G X (Rm (d + 1)) mX12_isAlone 5 [(0, .ref r0), (1, .int l1), (2, .int l2), (3, .int (nI 0)), (4, .int (nI 0))] [] μ 0 0 K) : G X (Rm (d + 1)) mX12_isAlone 0 [(0, .ref r0), (1, .int l1), (2, .int l2)] [] μ 0 0 K := by
  refine G_iconst d_X12_isAlone_0 ic_0 ?_
  refine G_istore_n (L' := [(3, .int (nI 0)), (0, .ref r0), (1, .int l1), (2, .int l2)]) d_X12_isAlone_1 rfl (by decide) rfl ?_
  refine G_iconst d_X12_isAlone_2 ic_0 ?_
  refine G_istore (L' := [(4, .int (nI 0)), (3, .int (nI 0)), (0, .ref r0), (1, .int l1), (2, .int l2)]) d_X12_isAlone_3 (by decide) rfl ?_
  refine G_sub (L' := [(0, .ref r0), (1, .int l1), (2, .int l2), (3, .int (nI 0)), (4, .int (nI 0))]) [2, 3, 4, 1, 0] rfl ?_
  exact h
theorem b_X12_isAlone_5 {X : cX} {d : Nat} {μ : mM} {K : Option Value → mM → Prop} {r0 : Nat} {i1 : Nat} {l2 : Int32} {l3 : Int32} {i4 : Nat} (hw12_r0 : WF12 μ r0) (hK : (e_X12_nodes μ r0) ≤ (nI i4) → K (some (.int l3)) μ) (hz : (e_X12_nodes μ r0) ≤ (nI i4) → l3 = 0 ∨ l3 = 1) (h : ¬ (e_X12_nodes μ r0) ≤ (nI i4) → (nI i4) = l2 → G X (Rm (d + 1)) mX12_isAlone 73 [(0, .ref r0), (1, .int (nI i1)), (2, .int l2), (3, .int l3), (4, .int (nI i4))] [] μ 0 0 K) (hb : ¬ (e_X12_nodes μ r0) ≤ (nI i4) → ¬ (nI i4) = l2 → (i1 + i4) < 366) (h_2 : ¬ (e_X12_nodes μ r0) ≤ (nI i4) → ¬ (nI i4) = l2 → (iv μ (r0 + 1) (i1 + i4)) = 0 → G X (Rm (d + 1)) mX12_isAlone 73 [(0, .ref r0), (1, .int (nI i1)), (2, .int l2), (3, .int l3), (4, .int (nI i4))] [] μ 0 0 K) (h_3 : ¬ (e_X12_nodes μ r0) ≤ (nI i4) → ¬ (nI i4) = l2 → ¬ (iv μ (r0 + 1) (i1 + i4)) = 0 → ¬ (iv μ r0 22) = 0 → G X (Rm (d + 1)) mX12_isAlone 53 [(0, .ref r0), (1, .int (nI i1)), (2, .int l2), (4, .int (nI i4))] [.ref r0] μ 0 0 K) (hb_2 : ¬ (e_X12_nodes μ r0) ≤ (nI i4) → ¬ (nI i4) = l2 → ¬ (iv μ (r0 + 1) (i1 + i4)) = 0 → (iv μ r0 22) = 0 → (i1 + i4) < 366) (h_4 : ¬ (e_X12_nodes μ r0) ≤ (nI i4) → ¬ (nI i4) = l2 → ¬ (iv μ (r0 + 1) (i1 + i4)) = 0 → (iv μ r0 22) = 0 → ¬ (iv μ (r0 + 1) (i1 + i4)) = (2 : Int32) → G X (Rm (d + 1)) mX12_isAlone 58 [(0, .ref r0), (1, .int (nI i1)), (2, .int l2), (4, .int (nI i4))] [.int 0, .ref r0] μ 0 0 K) (h_5 : ¬ (e_X12_nodes μ r0) ≤ (nI i4) → ¬ (nI i4) = l2 → ¬ (iv μ (r0 + 1) (i1 + i4)) = 0 → (iv μ r0 22) = 0 → (iv μ (r0 + 1) (i1 + i4)) = (2 : Int32) → G X (Rm (d + 1)) mX12_isAlone 53 [(0, .ref r0), (1, .int (nI i1)), (2, .int l2), (4, .int (nI i4))] [.ref r0] μ 0 0 K) : G X (Rm (d + 1)) mX12_isAlone 5 [(0, .ref r0), (1, .int (nI i1)), (2, .int l2), (3, .int l3), (4, .int (nI i4))] [] μ 0 0 K := by
  refine G_iload d_X12_isAlone_5 4 rfl ?_
  refine G_aload_n d_X12_isAlone_7 rfl 0 rfl ?_
  refine G_callV (M' := mX12_nodes) (R' := (Rm d)) (S := [.int (nI i4)]) [] 12 (w12_kd hw12_r0) cok12 rfl ok_X12_nodes ml_X12_169 pn_X12_nodes (ru_Rm (by decide)) (Nat.le_of_ble_eq_true rfl) d_X12_isAlone_8 (s_X12_nodes (μ := μ)  hw12_r0 ?_)
  show G X (Rm (d + 1)) mX12_isAlone 11 [(0, .ref r0), (1, .int (nI i1)), (2, .int l2), (3, .int l3), (4, .int (nI i4))] [.int (e_X12_nodes μ r0), .int (nI i4)] μ 0 0 K
  refine G_icmp_ge (tgt := 79) d_X12_isAlone_11 rfl (fun c0 => ?_) (fun c0 => ?_)
  ·
    refine G_iload_n d_X12_isAlone_79 rfl 3 rfl ?_
    exact G_zret rfl (nar_b (hz c0)) rfl rfl d_X12_isAlone_80 (hK c0)
  ·
    refine G_iload d_X12_isAlone_14 4 rfl ?_
    refine G_iload_n d_X12_isAlone_16 rfl 2 rfl ?_
    refine G_icmp_eq (tgt := 73) d_X12_isAlone_17 rfl (fun c1 => ?_) (fun c1 => ?_)
    ·
      exact (h c0 c1)
    ·
      refine G_aload_n d_X12_isAlone_20 rfl 0 rfl ?_
      refine G_getR (r := r0 + 1) 12 0 (w12_kd hw12_r0) (w12_f0 hw12_r0) cok12 (by decide) rfl fl_X12_7 d_X12_isAlone_21 ?_
      refine G_iload_n d_X12_isAlone_24 rfl 1 rfl ?_
      refine G_iload d_X12_isAlone_25 4 rfl ?_
      refine G_iadd d_X12_isAlone_27 ?_
      refine G_iald (i1 + i4) (w12_k0 hw12_r0) (nadd rfl rfl) (hb c0 c1) d_X12_isAlone_28 ?_
      refine G_if_eq (tgt := 73) d_X12_isAlone_29 rfl (fun c2 => ?_) (fun c2 => ?_)
      ·
        exact (h_2 c0 c1 c2)
      ·
        refine G_aload_n d_X12_isAlone_32 rfl 0 rfl ?_
        refine G_aload_n d_X12_isAlone_33 rfl 0 rfl ?_
        refine G_getI 12 22 (w12_kd hw12_r0) cok12 (by decide) rfl fl_X12_270 d_X12_isAlone_34 ?_
        refine G_if_ne (tgt := 53) d_X12_isAlone_37 rfl (fun c3 => ?_) (fun c3 => ?_)
        ·
          refine G_sub (L' := [(0, .ref r0), (1, .int (nI i1)), (2, .int l2), (4, .int (nI i4))]) [0, 1, 2, 4] rfl ?_
          exact (h_3 c0 c1 c2 c3)
        ·
          refine G_aload_n d_X12_isAlone_40 rfl 0 rfl ?_
          refine G_getR (r := r0 + 1) 12 0 (w12_kd hw12_r0) (w12_f0 hw12_r0) cok12 (by decide) rfl fl_X12_7 d_X12_isAlone_41 ?_
          refine G_iload_n d_X12_isAlone_44 rfl 1 rfl ?_
          refine G_iload d_X12_isAlone_45 4 rfl ?_
          refine G_iadd d_X12_isAlone_47 ?_
          refine G_iald (i1 + i4) (w12_k0 hw12_r0) (nadd rfl rfl) (hb_2 c0 c1 c2 c3) d_X12_isAlone_48 ?_
          refine G_iconst d_X12_isAlone_49 ic_2 ?_
          refine G_icmp_ne (tgt := 57) d_X12_isAlone_50 rfl (fun c4 => ?_) (fun c4 => ?_)
          ·
            refine G_iconst d_X12_isAlone_57 ic_0 ?_
            refine G_sub (L' := [(0, .ref r0), (1, .int (nI i1)), (2, .int l2), (4, .int (nI i4))]) [0, 1, 2, 4] rfl ?_
            exact (h_4 c0 c1 c2 c3 c4)
          ·
            refine G_sub (L' := [(0, .ref r0), (1, .int (nI i1)), (2, .int l2), (4, .int (nI i4))]) [0, 1, 2, 4] rfl ?_
            exact (h_5 c0 c1 c2 c3 c4)
theorem b_X12_isAlone_53 {X : cX} {d : Nat} {μ : mM} {K : Option Value → mM → Prop} {r0 : Nat} {l1 : Int32} {l2 : Int32} {l4 : Int32} {q0 : Nat} (h : G X (Rm (d + 1)) mX12_isAlone 58 [(0, .ref r0), (1, .int l1), (2, .int l2), (4, .int l4)] [.int 1, .ref q0] μ 0 0 K) : G X (Rm (d + 1)) mX12_isAlone 53 [(0, .ref r0), (1, .int l1), (2, .int l2), (4, .int l4)] [.ref q0] μ 0 0 K := by
  refine G_iconst d_X12_isAlone_53 ic_1 ?_
  refine G_goto (tgt := 58) d_X12_isAlone_54 rfl ?_
  exact h
theorem b_X12_isAlone_58 {X : cX} {d : Nat} {μ : mM} {K : Option Value → mM → Prop} {r0 : Nat} {i1 : Nat} {l2 : Int32} {i4 : Nat} {q0 : Nat} {v1 : Int32} (hw12_q0 : WF12 μ q0) (hz : v1 = 0 ∨ v1 = 1) (hw12_r0 : WF12 μ r0) (hb : (i1 + i4) < 366) (h : G X (Rm (d + 1)) mX12_isAlone 73 [(0, .ref r0), (1, .int (nI i1)), (2, .int l2), (3, .int (nI 1)), (4, .int (nI i4))] [] (wi (wi μ q0 22 v1) (r0 + 1) (i1 + i4) 0) 0 0 K) : G X (Rm (d + 1)) mX12_isAlone 58 [(0, .ref r0), (1, .int (nI i1)), (2, .int l2), (4, .int (nI i4))] [.int v1, .ref q0] μ 0 0 K := by
  refine G_putI 12 22 (w12_kd hw12_q0) (nar_b hz) (fit_b hz) cok12 (by decide) rfl (Or.inl rfl) fl_X12_270 d_X12_isAlone_58 ?_
  refine G_aload_n d_X12_isAlone_61 rfl 0 rfl ?_
  refine G_getR (r := r0 + 1) 12 0 (w12_kd hw12_r0) (w12_f0 hw12_r0) cok12 (by decide) rfl fl_X12_7 d_X12_isAlone_62 ?_
  refine G_iload_n d_X12_isAlone_65 rfl 1 rfl ?_
  refine G_iload d_X12_isAlone_66 3 rfl ?_
  refine G_iadd d_X12_isAlone_68 ?_
  refine G_iconst d_X12_isAlone_69 ic_0 ?_
  refine G_iast (i1 + i4) (w12_k0 hw12_r0) (nadd rfl rfl) hb d_X12_isAlone_70 ?_
  refine G_iconst d_X12_isAlone_71 ic_1 ?_
  refine G_istore_n (L' := [(3, .int (nI 1)), (0, .ref r0), (1, .int (nI i1)), (2, .int l2), (4, .int (nI i4))]) d_X12_isAlone_72 rfl (by decide) rfl ?_
  refine G_sub (L' := [(0, .ref r0), (1, .int (nI i1)), (2, .int l2), (3, .int (nI 1)), (4, .int (nI i4))]) [1, 2, 3, 0, 4] rfl ?_
  exact h
theorem b_X12_isAlone_73 {X : cX} {d : Nat} {μ : mM} {K : Option Value → mM → Prop} {r0 : Nat} {l1 : Int32} {l2 : Int32} {l3 : Int32} {i4 : Nat} (h : G X (Rm (d + 1)) mX12_isAlone 5 [(0, .ref r0), (1, .int l1), (2, .int l2), (3, .int l3), (4, .int (nI (i4 + 1)))] [] μ 0 0 K) : G X (Rm (d + 1)) mX12_isAlone 73 [(0, .ref r0), (1, .int l1), (2, .int l2), (3, .int l3), (4, .int (nI i4))] [] μ 0 0 K := by
  refine G_iinc (L' := [(4, .int (nI (i4 + 1))), (0, .ref r0), (1, .int l1), (2, .int l2), (3, .int l3)]) d_X12_isAlone_73 4 rfl (inc1 i4) (by decide) rfl ?_
  refine G_goto (tgt := 5) d_X12_isAlone_76 rfl ?_
  refine G_sub (L' := [(0, .ref r0), (1, .int l1), (2, .int l2), (3, .int l3), (4, .int (nI (i4 + 1)))]) [1, 2, 3, 4, 0] rfl ?_
  exact h
theorem d_X12_isSharper_0 : decode cX12_isSharper 0 = .ok (.iconst 0, 1) := by decide +kernel
theorem d_X12_isSharper_1 : decode cX12_isSharper 1 = .ok (.istore_n 1, 1) := by decide +kernel
theorem d_X12_isSharper_2 : decode cX12_isSharper 2 = .ok (.iconst 0, 1) := by decide +kernel
theorem d_X12_isSharper_3 : decode cX12_isSharper 3 = .ok (.istore_n 2, 1) := by decide +kernel
theorem d_X12_isSharper_4 : decode cX12_isSharper 4 = .ok (.iload_n 2, 1) := by decide +kernel
theorem d_X12_isSharper_5 : decode cX12_isSharper 5 = .ok (.iconst 3, 1) := by decide +kernel
theorem d_X12_isSharper_6 : decode cX12_isSharper 6 = .ok (.if_icmp .ge 87, 3) := by decide +kernel
theorem d_X12_isSharper_9 : decode cX12_isSharper 9 = .ok (.iconst 0, 1) := by decide +kernel
theorem d_X12_isSharper_10 : decode cX12_isSharper 10 = .ok (.istore_n 3, 1) := by decide +kernel
theorem d_X12_isSharper_11 : decode cX12_isSharper 11 = .ok (.iload_n 3, 1) := by decide +kernel
theorem d_X12_isSharper_12 : decode cX12_isSharper 12 = .ok (.aload_n 0, 1) := by decide +kernel
theorem d_X12_isSharper_13 : decode cX12_isSharper 13 = .ok (.invokevirtual 169, 3) := by decide +kernel
theorem d_X12_isSharper_16 : decode cX12_isSharper 16 = .ok (.if_icmp .ge 71, 3) := by decide +kernel
theorem d_X12_isSharper_19 : decode cX12_isSharper 19 = .ok (.aload_n 0, 1) := by decide +kernel
theorem d_X12_isSharper_20 : decode cX12_isSharper 20 = .ok (.iload_n 2, 1) := by decide +kernel
theorem d_X12_isSharper_21 : decode cX12_isSharper 21 = .ok (.iload_n 3, 1) := by decide +kernel
theorem d_X12_isSharper_22 : decode cX12_isSharper 22 = .ok (.invokevirtual 178, 3) := by decide +kernel
theorem d_X12_isSharper_25 : decode cX12_isSharper 25 = .ok (.iconst 2, 1) := by decide +kernel
theorem d_X12_isSharper_26 : decode cX12_isSharper 26 = .ok (.if_icmp .ne 55, 3) := by decide +kernel
theorem d_X12_isSharper_29 : decode cX12_isSharper 29 = .ok (.iload_n 1, 1) := by decide +kernel
theorem d_X12_isSharper_30 : decode cX12_isSharper 30 = .ok (.ifCond .ne 13, 3) := by decide +kernel
theorem d_X12_isSharper_33 : decode cX12_isSharper 33 = .ok (.aload_n 0, 1) := by decide +kernel
theorem d_X12_isSharper_34 : decode cX12_isSharper 34 = .ok (.getfield 7, 3) := by decide +kernel
theorem d_X12_isSharper_37 : decode cX12_isSharper 37 = .ok (.iload_n 3, 1) := by decide +kernel
theorem d_X12_isSharper_38 : decode cX12_isSharper 38 = .ok (.iaload, 1) := by decide +kernel
theorem d_X12_isSharper_39 : decode cX12_isSharper 39 = .ok (.iconst 1, 1) := by decide +kernel
theorem d_X12_isSharper_40 : decode cX12_isSharper 40 = .ok (.if_icmp .ne 7, 3) := by decide +kernel
theorem d_X12_isSharper_43 : decode cX12_isSharper 43 = .ok (.iconst 1, 1) := by decide +kernel
theorem d_X12_isSharper_44 : decode cX12_isSharper 44 = .ok (.goto 4, 3) := by decide +kernel
theorem d_X12_isSharper_47 : decode cX12_isSharper 47 = .ok (.iconst 0, 1) := by decide +kernel
theorem d_X12_isSharper_48 : decode cX12_isSharper 48 = .ok (.istore_n 1, 1) := by decide +kernel
theorem d_X12_isSharper_49 : decode cX12_isSharper 49 = .ok (.aload_n 0, 1) := by decide +kernel
theorem d_X12_isSharper_50 : decode cX12_isSharper 50 = .ok (.getfield 7, 3) := by decide +kernel
theorem d_X12_isSharper_53 : decode cX12_isSharper 53 = .ok (.iload_n 3, 1) := by decide +kernel
theorem d_X12_isSharper_54 : decode cX12_isSharper 54 = .ok (.iconst 0, 1) := by decide +kernel
theorem d_X12_isSharper_55 : decode cX12_isSharper 55 = .ok (.iastore, 1) := by decide +kernel
theorem d_X12_isSharper_56 : decode cX12_isSharper 56 = .ok (.aload_n 0, 1) := by decide +kernel
theorem d_X12_isSharper_57 : decode cX12_isSharper 57 = .ok (.bipush 6, 2) := by decide +kernel
theorem d_X12_isSharper_59 : decode cX12_isSharper 59 = .ok (.bipush 6, 2) := by decide +kernel
theorem d_X12_isSharper_61 : decode cX12_isSharper 61 = .ok (.iload_n 2, 1) := by decide +kernel
theorem d_X12_isSharper_62 : decode cX12_isSharper 62 = .ok (.imul, 1) := by decide +kernel
theorem d_X12_isSharper_63 : decode cX12_isSharper 63 = .ok (.iadd, 1) := by decide +kernel
theorem d_X12_isSharper_64 : decode cX12_isSharper 64 = .ok (.iload_n 3, 1) := by decide +kernel
theorem d_X12_isSharper_65 : decode cX12_isSharper 65 = .ok (.invokevirtual 274, 3) := by decide +kernel
theorem d_X12_isSharper_68 : decode cX12_isSharper 68 = .ok (.ifCond .ne 7, 3) := by decide +kernel
theorem d_X12_isSharper_71 : decode cX12_isSharper 71 = .ok (.iload_n 1, 1) := by decide +kernel
theorem d_X12_isSharper_72 : decode cX12_isSharper 72 = .ok (.ifCond .eq 7, 3) := by decide +kernel
theorem d_X12_isSharper_75 : decode cX12_isSharper 75 = .ok (.iconst 1, 1) := by decide +kernel
theorem d_X12_isSharper_76 : decode cX12_isSharper 76 = .ok (.goto 4, 3) := by decide +kernel
theorem d_X12_isSharper_79 : decode cX12_isSharper 79 = .ok (.iconst 0, 1) := by decide +kernel
theorem d_X12_isSharper_80 : decode cX12_isSharper 80 = .ok (.istore_n 1, 1) := by decide +kernel
theorem d_X12_isSharper_81 : decode cX12_isSharper 81 = .ok (.iinc 3 1, 3) := by decide +kernel
theorem d_X12_isSharper_84 : decode cX12_isSharper 84 = .ok (.goto (-73), 3) := by decide +kernel
theorem d_X12_isSharper_87 : decode cX12_isSharper 87 = .ok (.iinc 2 1, 3) := by decide +kernel
theorem d_X12_isSharper_90 : decode cX12_isSharper 90 = .ok (.goto (-86), 3) := by decide +kernel
theorem d_X12_isSharper_93 : decode cX12_isSharper 93 = .ok (.iconst 0, 1) := by decide +kernel
theorem d_X12_isSharper_94 : decode cX12_isSharper 94 = .ok (.istore_n 2, 1) := by decide +kernel
theorem d_X12_isSharper_95 : decode cX12_isSharper 95 = .ok (.iload_n 2, 1) := by decide +kernel
theorem d_X12_isSharper_96 : decode cX12_isSharper 96 = .ok (.aload_n 0, 1) := by decide +kernel
theorem d_X12_isSharper_97 : decode cX12_isSharper 97 = .ok (.invokevirtual 169, 3) := by decide +kernel
theorem d_X12_isSharper_100 : decode cX12_isSharper 100 = .ok (.if_icmp .ge 69, 3) := by decide +kernel
theorem d_X12_isSharper_103 : decode cX12_isSharper 103 = .ok (.iconst 0, 1) := by decide +kernel
theorem d_X12_isSharper_104 : decode cX12_isSharper 104 = .ok (.istore_n 3, 1) := by decide +kernel
theorem d_X12_isSharper_105 : decode cX12_isSharper 105 = .ok (.iload_n 3, 1) := by decide +kernel
theorem d_X12_isSharper_106 : decode cX12_isSharper 106 = .ok (.aload_n 0, 1) := by decide +kernel
theorem d_X12_isSharper_107 : decode cX12_isSharper 107 = .ok (.invokevirtual 169, 3) := by decide +kernel
theorem d_X12_isSharper_110 : decode cX12_isSharper 110 = .ok (.if_icmp .ge 53, 3) := by decide +kernel
theorem d_X12_isSharper_113 : decode cX12_isSharper 113 = .ok (.aload_n 0, 1) := by decide +kernel
theorem d_X12_isSharper_114 : decode cX12_isSharper 114 = .ok (.iload_n 2, 1) := by decide +kernel
theorem d_X12_isSharper_115 : decode cX12_isSharper 115 = .ok (.iload_n 3, 1) := by decide +kernel
theorem d_X12_isSharper_116 : decode cX12_isSharper 116 = .ok (.invokevirtual 204, 3) := by decide +kernel
theorem d_X12_isSharper_119 : decode cX12_isSharper 119 = .ok (.iconst 2, 1) := by decide +kernel
theorem d_X12_isSharper_120 : decode cX12_isSharper 120 = .ok (.if_icmp .ne 37, 3) := by decide +kernel
theorem d_X12_isSharper_123 : decode cX12_isSharper 123 = .ok (.aload_n 0, 1) := by decide +kernel
theorem d_X12_isSharper_124 : decode cX12_isSharper 124 = .ok (.getfield 7, 3) := by decide +kernel
theorem d_X12_isSharper_127 : decode cX12_isSharper 127 = .ok (.iload_n 3, 1) := by decide +kernel
theorem d_X12_isSharper_128 : decode cX12_isSharper 128 = .ok (.iaload, 1) := by decide +kernel
theorem d_X12_isSharper_129 : decode cX12_isSharper 129 = .ok (.ifCond .ne 28, 3) := by decide +kernel
theorem d_X12_isSharper_132 : decode cX12_isSharper 132 = .ok (.aload_n 0, 1) := by decide +kernel
theorem d_X12_isSharper_133 : decode cX12_isSharper 133 = .ok (.bipush 24, 2) := by decide +kernel
theorem d_X12_isSharper_135 : decode cX12_isSharper 135 = .ok (.bipush 6, 2) := by decide +kernel
theorem d_X12_isSharper_137 : decode cX12_isSharper 137 = .ok (.iload_n 2, 1) := by decide +kernel
theorem d_X12_isSharper_138 : decode cX12_isSharper 138 = .ok (.imul, 1) := by decide +kernel
theorem d_X12_isSharper_139 : decode cX12_isSharper 139 = .ok (.iadd, 1) := by decide +kernel
theorem d_X12_isSharper_140 : decode cX12_isSharper 140 = .ok (.iload_n 3, 1) := by decide +kernel
theorem d_X12_isSharper_141 : decode cX12_isSharper 141 = .ok (.invokevirtual 274, 3) := by decide +kernel
theorem d_X12_isSharper_144 : decode cX12_isSharper 144 = .ok (.ifCond .ne 7, 3) := by decide +kernel
theorem d_X12_isSharper_147 : decode cX12_isSharper 147 = .ok (.iload_n 1, 1) := by decide +kernel
theorem d_X12_isSharper_148 : decode cX12_isSharper 148 = .ok (.ifCond .eq 7, 3) := by decide +kernel
theorem d_X12_isSharper_151 : decode cX12_isSharper 151 = .ok (.iconst 1, 1) := by decide +kernel
theorem d_X12_isSharper_152 : decode cX12_isSharper 152 = .ok (.goto 4, 3) := by decide +kernel
theorem d_X12_isSharper_155 : decode cX12_isSharper 155 = .ok (.iconst 0, 1) := by decide +kernel
theorem d_X12_isSharper_156 : decode cX12_isSharper 156 = .ok (.istore_n 1, 1) := by decide +kernel
theorem d_X12_isSharper_157 : decode cX12_isSharper 157 = .ok (.iinc 3 1, 3) := by decide +kernel
theorem d_X12_isSharper_160 : decode cX12_isSharper 160 = .ok (.goto (-55), 3) := by decide +kernel
theorem d_X12_isSharper_163 : decode cX12_isSharper 163 = .ok (.iinc 2 1, 3) := by decide +kernel
theorem d_X12_isSharper_166 : decode cX12_isSharper 166 = .ok (.goto (-71), 3) := by decide +kernel
theorem d_X12_isSharper_169 : decode cX12_isSharper 169 = .ok (.iload_n 1, 1) := by decide +kernel
theorem d_X12_isSharper_170 : decode cX12_isSharper 170 = .ok (.ireturn, 1) := by decide +kernel
theorem b_X12_isSharper_0 {X : cX} {d : Nat} {μ : mM} {K : Option Value → mM → Prop} {r0 : Nat} (h : G X (Rm (d + 2)) mX12_isSharper 4 [(0, .ref r0), (1, .int 0), (2, .int (nI 0))] [] μ 0 0 K) : G X (Rm (d + 2)) mX12_isSharper 0 [(0, .ref r0)] [] μ 0 0 K := by
  refine G_iconst d_X12_isSharper_0 ic_0 ?_
  refine G_istore_n (L' := [(1, .int 0), (0, .ref r0)]) d_X12_isSharper_1 rfl (by decide) rfl ?_
  refine G_iconst d_X12_isSharper_2 ic_0 ?_
  refine G_istore_n (L' := [(2, .int (nI 0)), (1, .int 0), (0, .ref r0)]) d_X12_isSharper_3 rfl (by decide) rfl ?_
  refine G_sub (L' := [(0, .ref r0), (1, .int 0), (2, .int (nI 0))]) [2, 1, 0] rfl ?_
  exact h
theorem b_X12_isSharper_4 {X : cX} {d : Nat} {μ : mM} {K : Option Value → mM → Prop} {r0 : Nat} {l1 : Int32} {l2 : Int32} (h : (3 : Int32) ≤ l2 → G X (Rm (d + 2)) mX12_isSharper 95 [(0, .ref r0), (1, .int l1), (2, .int (nI 0))] [] μ 0 0 K) (h_2 : ¬ (3 : Int32) ≤ l2 → G X (Rm (d + 2)) mX12_isSharper 11 [(0, .ref r0), (1, .int l1), (2, .int l2), (3, .int (nI 0))] [] μ 0 0 K) : G X (Rm (d + 2)) mX12_isSharper 4 [(0, .ref r0), (1, .int l1), (2, .int l2)] [] μ 0 0 K := by
  refine G_iload_n d_X12_isSharper_4 rfl 2 rfl ?_
  refine G_iconst d_X12_isSharper_5 ic_3 ?_
  refine G_icmp_ge (tgt := 93) d_X12_isSharper_6 rfl (fun c0 => ?_) (fun c0 => ?_)
  ·
    refine G_iconst d_X12_isSharper_93 ic_0 ?_
    refine G_istore_n (L' := [(2, .int (nI 0)), (0, .ref r0), (1, .int l1)]) d_X12_isSharper_94 rfl (by decide) rfl ?_
    refine G_sub (L' := [(0, .ref r0), (1, .int l1), (2, .int (nI 0))]) [1, 2, 0] rfl ?_
    exact (h c0)
  ·
    refine G_iconst d_X12_isSharper_9 ic_0 ?_
    refine G_istore_n (L' := [(3, .int (nI 0)), (0, .ref r0), (1, .int l1), (2, .int l2)]) d_X12_isSharper_10 rfl (by decide) rfl ?_
    refine G_sub (L' := [(0, .ref r0), (1, .int l1), (2, .int l2), (3, .int (nI 0))]) [1, 2, 3, 0] rfl ?_
    exact (h_2 c0)
theorem b_X12_isSharper_11 {X : cX} {d : Nat} {μ : mM} {K : Option Value → mM → Prop} {r0 : Nat} {l1 : Int32} {i2 : Nat} {i3 : Nat} (hw12_r0 : WF12 μ r0) (h : (e_X12_nodes μ r0) ≤ (nI i3) → G X (Rm (d + 2)) mX12_isSharper 4 [(0, .ref r0), (1, .int l1), (2, .int (nI (i2 + 1)))] [] μ 0 0 K) (hs : ¬ (e_X12_nodes μ r0) ≤ (nI i3) → ((6 + (6 * i2)) + i3) < 366) (h_2 : ¬ (e_X12_nodes μ r0) ≤ (nI i3) → ¬ (e_X12_atOf μ r0 i2 i3) = (2 : Int32) → G X (Rm (d + 2)) mX12_isSharper 81 [(0, .ref r0), (1, .int l1), (2, .int (nI i2)), (3, .int (nI i3))] [] μ 0 0 K) (h_3 : ¬ (e_X12_nodes μ r0) ≤ (nI i3) → (e_X12_atOf μ r0 i2 i3) = (2 : Int32) → ¬ l1 = 0 → G X (Rm (d + 2)) mX12_isSharper 43 [(0, .ref r0), (2, .int (nI i2)), (3, .int (nI i3))] [] μ 0 0 K) (hb : ¬ (e_X12_nodes μ r0) ≤ (nI i3) → (e_X12_atOf μ r0 i2 i3) = (2 : Int32) → l1 = 0 → i3 < 366) (h_4 : ¬ (e_X12_nodes μ r0) ≤ (nI i3) → (e_X12_atOf μ r0 i2 i3) = (2 : Int32) → l1 = 0 → ¬ (iv μ (r0 + 1) i3) = (1 : Int32) → G X (Rm (d + 2)) mX12_isSharper 48 [(0, .ref r0), (2, .int (nI i2)), (3, .int (nI i3))] [.int 0] μ 0 0 K) (h_5 : ¬ (e_X12_nodes μ r0) ≤ (nI i3) → (e_X12_atOf μ r0 i2 i3) = (2 : Int32) → l1 = 0 → (iv μ (r0 + 1) i3) = (1 : Int32) → G X (Rm (d + 2)) mX12_isSharper 43 [(0, .ref r0), (2, .int (nI i2)), (3, .int (nI i3))] [] μ 0 0 K) : G X (Rm (d + 2)) mX12_isSharper 11 [(0, .ref r0), (1, .int l1), (2, .int (nI i2)), (3, .int (nI i3))] [] μ 0 0 K := by
  refine G_iload_n d_X12_isSharper_11 rfl 3 rfl ?_
  refine G_aload_n d_X12_isSharper_12 rfl 0 rfl ?_
  refine G_callV (M' := mX12_nodes) (R' := (Rm (d + 1))) (S := [.int (nI i3)]) [] 12 (w12_kd hw12_r0) cok12 rfl ok_X12_nodes ml_X12_169 pn_X12_nodes (ru_Rm (by decide)) (Nat.le_of_ble_eq_true rfl) d_X12_isSharper_13 (s_X12_nodes (μ := μ)  hw12_r0 ?_)
  show G X (Rm (d + 2)) mX12_isSharper 16 [(0, .ref r0), (1, .int l1), (2, .int (nI i2)), (3, .int (nI i3))] [.int (e_X12_nodes μ r0), .int (nI i3)] μ 0 0 K
  refine G_icmp_ge (tgt := 87) d_X12_isSharper_16 rfl (fun c0 => ?_) (fun c0 => ?_)
  ·
    refine G_iinc (L' := [(2, .int (nI (i2 + 1))), (0, .ref r0), (1, .int l1), (3, .int (nI i3))]) d_X12_isSharper_87 2 rfl (inc1 i2) (by decide) rfl ?_
    refine G_goto (tgt := 4) d_X12_isSharper_90 rfl ?_
    refine G_sub (L' := [(0, .ref r0), (1, .int l1), (2, .int (nI (i2 + 1)))]) [1, 2, 0] rfl ?_
    exact (h c0)
  ·
    refine G_aload_n d_X12_isSharper_19 rfl 0 rfl ?_
    refine G_iload_n d_X12_isSharper_20 rfl 2 rfl ?_
    refine G_iload_n d_X12_isSharper_21 rfl 3 rfl ?_
    refine G_callV (M' := mX12_atOf) (R' := (Rm (d + 1))) (S := []) [.int (nI i2), .int (nI i3)] 12 (w12_kd hw12_r0) cok12 rfl ok_X12_atOf ml_X12_178 pn_X12_atOf (ru_Rm (by decide)) (Nat.le_of_ble_eq_true rfl) d_X12_isSharper_22 (s_X12_atOf (μ := μ) (i1 := i2) (i2 := i3) hw12_r0 (hs c0) ?_)
    show G X (Rm (d + 2)) mX12_isSharper 25 [(0, .ref r0), (1, .int l1), (2, .int (nI i2)), (3, .int (nI i3))] [.int (e_X12_atOf μ r0 i2 i3)] μ 0 0 K
    refine G_iconst d_X12_isSharper_25 ic_2 ?_
    refine G_icmp_ne (tgt := 81) d_X12_isSharper_26 rfl (fun c1 => ?_) (fun c1 => ?_)
    ·
      exact (h_2 c0 c1)
    ·
      refine G_iload_n d_X12_isSharper_29 rfl 1 rfl ?_
      refine G_if_ne (tgt := 43) d_X12_isSharper_30 rfl (fun c2 => ?_) (fun c2 => ?_)
      ·
        refine G_sub (L' := [(0, .ref r0), (2, .int (nI i2)), (3, .int (nI i3))]) [0, 2, 3] rfl ?_
        exact (h_3 c0 c1 c2)
      ·
        refine G_aload_n d_X12_isSharper_33 rfl 0 rfl ?_
        refine G_getR (r := r0 + 1) 12 0 (w12_kd hw12_r0) (w12_f0 hw12_r0) cok12 (by decide) rfl fl_X12_7 d_X12_isSharper_34 ?_
        refine G_iload_n d_X12_isSharper_37 rfl 3 rfl ?_
        refine G_iald i3 (w12_k0 hw12_r0) rfl (hb c0 c1 c2) d_X12_isSharper_38 ?_
        refine G_iconst d_X12_isSharper_39 ic_1 ?_
        refine G_icmp_ne (tgt := 47) d_X12_isSharper_40 rfl (fun c3 => ?_) (fun c3 => ?_)
        ·
          refine G_iconst d_X12_isSharper_47 ic_0 ?_
          refine G_sub (L' := [(0, .ref r0), (2, .int (nI i2)), (3, .int (nI i3))]) [0, 2, 3] rfl ?_
          exact (h_4 c0 c1 c2 c3)
        ·
          refine G_sub (L' := [(0, .ref r0), (2, .int (nI i2)), (3, .int (nI i3))]) [0, 2, 3] rfl ?_
          exact (h_5 c0 c1 c2 c3)
theorem b_X12_isSharper_43 {X : cX} {d : Nat} {μ : mM} {K : Option Value → mM → Prop} {r0 : Nat} {l2 : Int32} {l3 : Int32} (h : G X (Rm (d + 2)) mX12_isSharper 48 [(0, .ref r0), (2, .int l2), (3, .int l3)] [.int 1] μ 0 0 K) : G X (Rm (d + 2)) mX12_isSharper 43 [(0, .ref r0), (2, .int l2), (3, .int l3)] [] μ 0 0 K := by
  refine G_iconst d_X12_isSharper_43 ic_1 ?_
  refine G_goto (tgt := 48) d_X12_isSharper_44 rfl ?_
  exact h
theorem b_X12_isSharper_48 {X : cX} {d : Nat} {μ : mM} {K : Option Value → mM → Prop} {r0 : Nat} {l2 : Int32} {i3 : Nat} {v0 : Int32} (hw12_r0 : WF12 μ r0) (hb : i3 < 366) (hc_isAlone : Ct X (Rm (d + 1)) mX12_isAlone [.ref r0, .int ((6 : Int32) + ((6 : Int32) * l2)), .int (nI i3)] (wi μ (r0 + 1) i3 0) (fun r μ2 => G X (Rm (d + 2)) mX12_isSharper 68 [(0, .ref r0), (1, .int v0), (2, .int l2), (3, .int (nI i3))] (r.toList ++ []) μ2 0 0 K)) : G X (Rm (d + 2)) mX12_isSharper 48 [(0, .ref r0), (2, .int l2), (3, .int (nI i3))] [.int v0] μ 0 0 K := by
  refine G_istore_n (L' := [(1, .int v0), (0, .ref r0), (2, .int l2), (3, .int (nI i3))]) d_X12_isSharper_48 rfl (by decide) rfl ?_
  refine G_aload_n d_X12_isSharper_49 rfl 1 rfl ?_
  refine G_getR (r := r0 + 1) 12 0 (w12_kd hw12_r0) (w12_f0 hw12_r0) cok12 (by decide) rfl fl_X12_7 d_X12_isSharper_50 ?_
  refine G_iload_n d_X12_isSharper_53 rfl 3 rfl ?_
  refine G_iconst d_X12_isSharper_54 ic_0 ?_
  refine G_iast i3 (w12_k0 hw12_r0) rfl hb d_X12_isSharper_55 ?_
  refine G_aload_n d_X12_isSharper_56 rfl 1 rfl ?_
  refine G_bipush d_X12_isSharper_57 bp_6 ?_
  refine G_bipush d_X12_isSharper_59 bp_6 ?_
  refine G_iload_n d_X12_isSharper_61 rfl 2 rfl ?_
  refine G_imul d_X12_isSharper_62 ?_
  refine G_iadd d_X12_isSharper_63 ?_
  refine G_iload_n d_X12_isSharper_64 rfl 3 rfl ?_
  refine G_sub (L' := [(0, .ref r0), (1, .int v0), (2, .int l2), (3, .int (nI i3))]) [1, 0, 2, 3] rfl ?_
  refine G_callV (M' := mX12_isAlone) (R' := (Rm (d + 1))) (S := []) [.int ((6 : Int32) + ((6 : Int32) * l2)), .int (nI i3)] 12 (w12_kd hw12_r0) cok12 rfl ok_X12_isAlone ml_X12_274 pn_X12_isAlone (ru_Rm (by decide)) (Nat.le_of_ble_eq_true rfl) d_X12_isSharper_65 ?_
  exact hc_isAlone
theorem b_X12_isSharper_68 {X : cX} {d : Nat} {μ : mM} {K : Option Value → mM → Prop} {r0 : Nat} {l1 : Int32} {l2 : Int32} {l3 : Int32} {v0 : Int32} (h : ¬ v0 = 0 → G X (Rm (d + 2)) mX12_isSharper 75 [(0, .ref r0), (2, .int l2), (3, .int l3)] [] μ 0 0 K) (h_2 : v0 = 0 → l1 = 0 → G X (Rm (d + 2)) mX12_isSharper 80 [(0, .ref r0), (2, .int l2), (3, .int l3)] [.int 0] μ 0 0 K) (h_3 : v0 = 0 → ¬ l1 = 0 → G X (Rm (d + 2)) mX12_isSharper 75 [(0, .ref r0), (2, .int l2), (3, .int l3)] [] μ 0 0 K) : G X (Rm (d + 2)) mX12_isSharper 68 [(0, .ref r0), (1, .int l1), (2, .int l2), (3, .int l3)] [.int v0] μ 0 0 K := by
  refine G_if_ne (tgt := 75) d_X12_isSharper_68 rfl (fun c0 => ?_) (fun c0 => ?_)
  ·
    refine G_sub (L' := [(0, .ref r0), (2, .int l2), (3, .int l3)]) [0, 2, 3] rfl ?_
    exact (h c0)
  ·
    refine G_iload_n d_X12_isSharper_71 rfl 1 rfl ?_
    refine G_if_eq (tgt := 79) d_X12_isSharper_72 rfl (fun c1 => ?_) (fun c1 => ?_)
    ·
      refine G_iconst d_X12_isSharper_79 ic_0 ?_
      refine G_sub (L' := [(0, .ref r0), (2, .int l2), (3, .int l3)]) [0, 2, 3] rfl ?_
      exact (h_2 c0 c1)
    ·
      refine G_sub (L' := [(0, .ref r0), (2, .int l2), (3, .int l3)]) [0, 2, 3] rfl ?_
      exact (h_3 c0 c1)
theorem b_X12_isSharper_75 {X : cX} {d : Nat} {μ : mM} {K : Option Value → mM → Prop} {r0 : Nat} {l2 : Int32} {l3 : Int32} (h : G X (Rm (d + 2)) mX12_isSharper 80 [(0, .ref r0), (2, .int l2), (3, .int l3)] [.int 1] μ 0 0 K) : G X (Rm (d + 2)) mX12_isSharper 75 [(0, .ref r0), (2, .int l2), (3, .int l3)] [] μ 0 0 K := by
  refine G_iconst d_X12_isSharper_75 ic_1 ?_
  refine G_goto (tgt := 80) d_X12_isSharper_76 rfl ?_
  exact h
theorem b_X12_isSharper_80 {X : cX} {d : Nat} {μ : mM} {K : Option Value → mM → Prop} {r0 : Nat} {l2 : Int32} {l3 : Int32} {v0 : Int32} (h : G X (Rm (d + 2)) mX12_isSharper 81 [(0, .ref r0), (1, .int v0), (2, .int l2), (3, .int l3)] [] μ 0 0 K) : G X (Rm (d + 2)) mX12_isSharper 80 [(0, .ref r0), (2, .int l2), (3, .int l3)] [.int v0] μ 0 0 K := by
  refine G_istore_n (L' := [(1, .int v0), (0, .ref r0), (2, .int l2), (3, .int l3)]) d_X12_isSharper_80 rfl (by decide) rfl ?_
  refine G_sub (L' := [(0, .ref r0), (1, .int v0), (2, .int l2), (3, .int l3)]) [1, 0, 2, 3] rfl ?_
  exact h
theorem b_X12_isSharper_81 {X : cX} {d : Nat} {μ : mM} {K : Option Value → mM → Prop} {r0 : Nat} {l1 : Int32} {l2 : Int32} {i3 : Nat} (h : G X (Rm (d + 2)) mX12_isSharper 11 [(0, .ref r0), (1, .int l1), (2, .int l2), (3, .int (nI (i3 + 1)))] [] μ 0 0 K) : G X (Rm (d + 2)) mX12_isSharper 81 [(0, .ref r0), (1, .int l1), (2, .int l2), (3, .int (nI i3))] [] μ 0 0 K := by
  refine G_iinc (L' := [(3, .int (nI (i3 + 1))), (0, .ref r0), (1, .int l1), (2, .int l2)]) d_X12_isSharper_81 3 rfl (inc1 i3) (by decide) rfl ?_
  refine G_goto (tgt := 11) d_X12_isSharper_84 rfl ?_
  refine G_sub (L' := [(0, .ref r0), (1, .int l1), (2, .int l2), (3, .int (nI (i3 + 1)))]) [1, 2, 3, 0] rfl ?_
  exact h
theorem b_X12_isSharper_95 {X : cX} {d : Nat} {μ : mM} {K : Option Value → mM → Prop} {r0 : Nat} {l1 : Int32} {l2 : Int32} (hw12_r0 : WF12 μ r0) (hK : (e_X12_nodes μ r0) ≤ l2 → K (some (.int l1)) μ) (hz : (e_X12_nodes μ r0) ≤ l2 → l1 = 0 ∨ l1 = 1) (h : ¬ (e_X12_nodes μ r0) ≤ l2 → G X (Rm (d + 2)) mX12_isSharper 105 [(0, .ref r0), (1, .int l1), (2, .int l2), (3, .int (nI 0))] [] μ 0 0 K) : G X (Rm (d + 2)) mX12_isSharper 95 [(0, .ref r0), (1, .int l1), (2, .int l2)] [] μ 0 0 K := by
  refine G_iload_n d_X12_isSharper_95 rfl 2 rfl ?_
  refine G_aload_n d_X12_isSharper_96 rfl 0 rfl ?_
  refine G_callV (M' := mX12_nodes) (R' := (Rm (d + 1))) (S := [.int l2]) [] 12 (w12_kd hw12_r0) cok12 rfl ok_X12_nodes ml_X12_169 pn_X12_nodes (ru_Rm (by decide)) (Nat.le_of_ble_eq_true rfl) d_X12_isSharper_97 (s_X12_nodes (μ := μ)  hw12_r0 ?_)
  show G X (Rm (d + 2)) mX12_isSharper 100 [(0, .ref r0), (1, .int l1), (2, .int l2)] [.int (e_X12_nodes μ r0), .int l2] μ 0 0 K
  refine G_icmp_ge (tgt := 169) d_X12_isSharper_100 rfl (fun c0 => ?_) (fun c0 => ?_)
  ·
    refine G_iload_n d_X12_isSharper_169 rfl 1 rfl ?_
    exact G_zret rfl (nar_b (hz c0)) rfl rfl d_X12_isSharper_170 (hK c0)
  ·
    refine G_iconst d_X12_isSharper_103 ic_0 ?_
    refine G_istore_n (L' := [(3, .int (nI 0)), (0, .ref r0), (1, .int l1), (2, .int l2)]) d_X12_isSharper_104 rfl (by decide) rfl ?_
    refine G_sub (L' := [(0, .ref r0), (1, .int l1), (2, .int l2), (3, .int (nI 0))]) [1, 2, 3, 0] rfl ?_
    exact (h c0)
theorem b_X12_isSharper_105 {X : cX} {d : Nat} {μ : mM} {K : Option Value → mM → Prop} {r0 : Nat} {l1 : Int32} {i2 : Nat} {i3 : Nat} (hw12_r0 : WF12 μ r0) (h : (e_X12_nodes μ r0) ≤ (nI i3) → G X (Rm (d + 2)) mX12_isSharper 95 [(0, .ref r0), (1, .int l1), (2, .int (nI (i2 + 1)))] [] μ 0 0 K) (hs : ¬ (e_X12_nodes μ r0) ≤ (nI i3) → ((24 + (6 * i2)) + i3) < 366) (h_2 : ¬ (e_X12_nodes μ r0) ≤ (nI i3) → ¬ (e_X12_nextOf μ r0 i2 i3) = (2 : Int32) → G X (Rm (d + 2)) mX12_isSharper 157 [(0, .ref r0), (1, .int l1), (2, .int (nI i2)), (3, .int (nI i3))] [] μ 0 0 K) (hb : ¬ (e_X12_nodes μ r0) ≤ (nI i3) → (e_X12_nextOf μ r0 i2 i3) = (2 : Int32) → i3 < 366) (h_3 : ¬ (e_X12_nodes μ r0) ≤ (nI i3) → (e_X12_nextOf μ r0 i2 i3) = (2 : Int32) → ¬ (iv μ (r0 + 1) i3) = 0 → G X (Rm (d + 2)) mX12_isSharper 157 [(0, .ref r0), (1, .int l1), (2, .int (nI i2)), (3, .int (nI i3))] [] μ 0 0 K) (hc_isAlone : ¬ (e_X12_nodes μ r0) ≤ (nI i3) → (e_X12_nextOf μ r0 i2 i3) = (2 : Int32) → (iv μ (r0 + 1) i3) = 0 → Ct X (Rm (d + 1)) mX12_isAlone [.ref r0, .int ((24 : Int32) + ((6 : Int32) * (nI i2))), .int (nI i3)] μ (fun r μ2 => G X (Rm (d + 2)) mX12_isSharper 144 [(0, .ref r0), (1, .int l1), (2, .int (nI i2)), (3, .int (nI i3))] (r.toList ++ []) μ2 0 0 K)) : G X (Rm (d + 2)) mX12_isSharper 105 [(0, .ref r0), (1, .int l1), (2, .int (nI i2)), (3, .int (nI i3))] [] μ 0 0 K := by
  refine G_iload_n d_X12_isSharper_105 rfl 3 rfl ?_
  refine G_aload_n d_X12_isSharper_106 rfl 0 rfl ?_
  refine G_callV (M' := mX12_nodes) (R' := (Rm (d + 1))) (S := [.int (nI i3)]) [] 12 (w12_kd hw12_r0) cok12 rfl ok_X12_nodes ml_X12_169 pn_X12_nodes (ru_Rm (by decide)) (Nat.le_of_ble_eq_true rfl) d_X12_isSharper_107 (s_X12_nodes (μ := μ)  hw12_r0 ?_)
  show G X (Rm (d + 2)) mX12_isSharper 110 [(0, .ref r0), (1, .int l1), (2, .int (nI i2)), (3, .int (nI i3))] [.int (e_X12_nodes μ r0), .int (nI i3)] μ 0 0 K
  refine G_icmp_ge (tgt := 163) d_X12_isSharper_110 rfl (fun c0 => ?_) (fun c0 => ?_)
  ·
    refine G_iinc (L' := [(2, .int (nI (i2 + 1))), (0, .ref r0), (1, .int l1), (3, .int (nI i3))]) d_X12_isSharper_163 2 rfl (inc1 i2) (by decide) rfl ?_
    refine G_goto (tgt := 95) d_X12_isSharper_166 rfl ?_
    refine G_sub (L' := [(0, .ref r0), (1, .int l1), (2, .int (nI (i2 + 1)))]) [1, 2, 0] rfl ?_
    exact (h c0)
  ·
    refine G_aload_n d_X12_isSharper_113 rfl 0 rfl ?_
    refine G_iload_n d_X12_isSharper_114 rfl 2 rfl ?_
    refine G_iload_n d_X12_isSharper_115 rfl 3 rfl ?_
    refine G_callV (M' := mX12_nextOf) (R' := (Rm (d + 1))) (S := []) [.int (nI i2), .int (nI i3)] 12 (w12_kd hw12_r0) cok12 rfl ok_X12_nextOf ml_X12_204 pn_X12_nextOf (ru_Rm (by decide)) (Nat.le_of_ble_eq_true rfl) d_X12_isSharper_116 (s_X12_nextOf (μ := μ) (i1 := i2) (i2 := i3) hw12_r0 (hs c0) ?_)
    show G X (Rm (d + 2)) mX12_isSharper 119 [(0, .ref r0), (1, .int l1), (2, .int (nI i2)), (3, .int (nI i3))] [.int (e_X12_nextOf μ r0 i2 i3)] μ 0 0 K
    refine G_iconst d_X12_isSharper_119 ic_2 ?_
    refine G_icmp_ne (tgt := 157) d_X12_isSharper_120 rfl (fun c1 => ?_) (fun c1 => ?_)
    ·
      exact (h_2 c0 c1)
    ·
      refine G_aload_n d_X12_isSharper_123 rfl 0 rfl ?_
      refine G_getR (r := r0 + 1) 12 0 (w12_kd hw12_r0) (w12_f0 hw12_r0) cok12 (by decide) rfl fl_X12_7 d_X12_isSharper_124 ?_
      refine G_iload_n d_X12_isSharper_127 rfl 3 rfl ?_
      refine G_iald i3 (w12_k0 hw12_r0) rfl (hb c0 c1) d_X12_isSharper_128 ?_
      refine G_if_ne (tgt := 157) d_X12_isSharper_129 rfl (fun c2 => ?_) (fun c2 => ?_)
      ·
        exact (h_3 c0 c1 c2)
      ·
        refine G_aload_n d_X12_isSharper_132 rfl 0 rfl ?_
        refine G_bipush d_X12_isSharper_133 bp_24 ?_
        refine G_bipush d_X12_isSharper_135 bp_6 ?_
        refine G_iload_n d_X12_isSharper_137 rfl 2 rfl ?_
        refine G_imul d_X12_isSharper_138 ?_
        refine G_iadd d_X12_isSharper_139 ?_
        refine G_iload_n d_X12_isSharper_140 rfl 3 rfl ?_
        refine G_callV (M' := mX12_isAlone) (R' := (Rm (d + 1))) (S := []) [.int ((24 : Int32) + ((6 : Int32) * (nI i2))), .int (nI i3)] 12 (w12_kd hw12_r0) cok12 rfl ok_X12_isAlone ml_X12_274 pn_X12_isAlone (ru_Rm (by decide)) (Nat.le_of_ble_eq_true rfl) d_X12_isSharper_141 ?_
        exact (hc_isAlone c0 c1 c2)
theorem b_X12_isSharper_144 {X : cX} {d : Nat} {μ : mM} {K : Option Value → mM → Prop} {r0 : Nat} {l1 : Int32} {l2 : Int32} {l3 : Int32} {v0 : Int32} (h : ¬ v0 = 0 → G X (Rm (d + 2)) mX12_isSharper 151 [(0, .ref r0), (2, .int l2), (3, .int l3)] [] μ 0 0 K) (h_2 : v0 = 0 → l1 = 0 → G X (Rm (d + 2)) mX12_isSharper 156 [(0, .ref r0), (2, .int l2), (3, .int l3)] [.int 0] μ 0 0 K) (h_3 : v0 = 0 → ¬ l1 = 0 → G X (Rm (d + 2)) mX12_isSharper 151 [(0, .ref r0), (2, .int l2), (3, .int l3)] [] μ 0 0 K) : G X (Rm (d + 2)) mX12_isSharper 144 [(0, .ref r0), (1, .int l1), (2, .int l2), (3, .int l3)] [.int v0] μ 0 0 K := by
  refine G_if_ne (tgt := 151) d_X12_isSharper_144 rfl (fun c0 => ?_) (fun c0 => ?_)
  ·
    refine G_sub (L' := [(0, .ref r0), (2, .int l2), (3, .int l3)]) [0, 2, 3] rfl ?_
    exact (h c0)
  ·
    refine G_iload_n d_X12_isSharper_147 rfl 1 rfl ?_
    refine G_if_eq (tgt := 155) d_X12_isSharper_148 rfl (fun c1 => ?_) (fun c1 => ?_)
    ·
      refine G_iconst d_X12_isSharper_155 ic_0 ?_
      refine G_sub (L' := [(0, .ref r0), (2, .int l2), (3, .int l3)]) [0, 2, 3] rfl ?_
      exact (h_2 c0 c1)
    ·
      refine G_sub (L' := [(0, .ref r0), (2, .int l2), (3, .int l3)]) [0, 2, 3] rfl ?_
      exact (h_3 c0 c1)
theorem b_X12_isSharper_151 {X : cX} {d : Nat} {μ : mM} {K : Option Value → mM → Prop} {r0 : Nat} {l2 : Int32} {l3 : Int32} (h : G X (Rm (d + 2)) mX12_isSharper 156 [(0, .ref r0), (2, .int l2), (3, .int l3)] [.int 1] μ 0 0 K) : G X (Rm (d + 2)) mX12_isSharper 151 [(0, .ref r0), (2, .int l2), (3, .int l3)] [] μ 0 0 K := by
  refine G_iconst d_X12_isSharper_151 ic_1 ?_
  refine G_goto (tgt := 156) d_X12_isSharper_152 rfl ?_
  exact h
theorem b_X12_isSharper_156 {X : cX} {d : Nat} {μ : mM} {K : Option Value → mM → Prop} {r0 : Nat} {l2 : Int32} {l3 : Int32} {v0 : Int32} (h : G X (Rm (d + 2)) mX12_isSharper 157 [(0, .ref r0), (1, .int v0), (2, .int l2), (3, .int l3)] [] μ 0 0 K) : G X (Rm (d + 2)) mX12_isSharper 156 [(0, .ref r0), (2, .int l2), (3, .int l3)] [.int v0] μ 0 0 K := by
  refine G_istore_n (L' := [(1, .int v0), (0, .ref r0), (2, .int l2), (3, .int l3)]) d_X12_isSharper_156 rfl (by decide) rfl ?_
  refine G_sub (L' := [(0, .ref r0), (1, .int v0), (2, .int l2), (3, .int l3)]) [1, 0, 2, 3] rfl ?_
  exact h
theorem b_X12_isSharper_157 {X : cX} {d : Nat} {μ : mM} {K : Option Value → mM → Prop} {r0 : Nat} {l1 : Int32} {l2 : Int32} {i3 : Nat} (h : G X (Rm (d + 2)) mX12_isSharper 105 [(0, .ref r0), (1, .int l1), (2, .int l2), (3, .int (nI (i3 + 1)))] [] μ 0 0 K) : G X (Rm (d + 2)) mX12_isSharper 157 [(0, .ref r0), (1, .int l1), (2, .int l2), (3, .int (nI i3))] [] μ 0 0 K := by
  refine G_iinc (L' := [(3, .int (nI (i3 + 1))), (0, .ref r0), (1, .int l1), (2, .int l2)]) d_X12_isSharper_157 3 rfl (inc1 i3) (by decide) rfl ?_
  refine G_goto (tgt := 105) d_X12_isSharper_160 rfl ?_
  refine G_sub (L' := [(0, .ref r0), (1, .int l1), (2, .int l2), (3, .int (nI (i3 + 1)))]) [1, 2, 3, 0] rfl ?_
  exact h
theorem d_X12_sharpen_0 : decode cX12_sharpen 0 = .ok (.aload_n 0, 1) := by decide +kernel
theorem d_X12_sharpen_1 : decode cX12_sharpen 1 = .ok (.iconst 0, 1) := by decide +kernel
theorem d_X12_sharpen_2 : decode cX12_sharpen 2 = .ok (.sipush 305, 3) := by decide +kernel
theorem d_X12_sharpen_5 : decode cX12_sharpen 5 = .ok (.invokevirtual 162, 3) := by decide +kernel
theorem d_X12_sharpen_8 : decode cX12_sharpen 8 = .ok (.aload_n 0, 1) := by decide +kernel
theorem d_X12_sharpen_9 : decode cX12_sharpen 9 = .ok (.iconst 0, 1) := by decide +kernel
theorem d_X12_sharpen_10 : decode cX12_sharpen 10 = .ok (.putfield 270, 3) := by decide +kernel
theorem d_X12_sharpen_13 : decode cX12_sharpen 13 = .ok (.iconst 1, 1) := by decide +kernel
theorem d_X12_sharpen_14 : decode cX12_sharpen 14 = .ok (.istore_n 1, 1) := by decide +kernel
theorem d_X12_sharpen_15 : decode cX12_sharpen 15 = .ok (.iload_n 1, 1) := by decide +kernel
theorem d_X12_sharpen_16 : decode cX12_sharpen 16 = .ok (.ifCond .eq 18, 3) := by decide +kernel
theorem d_X12_sharpen_19 : decode cX12_sharpen 19 = .ok (.aload_n 0, 1) := by decide +kernel
theorem d_X12_sharpen_20 : decode cX12_sharpen 20 = .ok (.getfield 270, 3) := by decide +kernel
theorem d_X12_sharpen_23 : decode cX12_sharpen 23 = .ok (.ifCond .ne 11, 3) := by decide +kernel
theorem d_X12_sharpen_26 : decode cX12_sharpen 26 = .ok (.aload_n 0, 1) := by decide +kernel
theorem d_X12_sharpen_27 : decode cX12_sharpen 27 = .ok (.invokevirtual 278, 3) := by decide +kernel
theorem d_X12_sharpen_30 : decode cX12_sharpen 30 = .ok (.istore_n 1, 1) := by decide +kernel
theorem d_X12_sharpen_31 : decode cX12_sharpen 31 = .ok (.goto (-16), 3) := by decide +kernel
theorem d_X12_sharpen_34 : decode cX12_sharpen 34 = .ok (.aload_n 0, 1) := by decide +kernel
theorem d_X12_sharpen_35 : decode cX12_sharpen 35 = .ok (.getfield 270, 3) := by decide +kernel
theorem d_X12_sharpen_38 : decode cX12_sharpen 38 = .ok (.ifCond .eq 14, 3) := by decide +kernel
theorem d_X12_sharpen_41 : decode cX12_sharpen 41 = .ok (.aload_n 0, 1) := by decide +kernel
theorem d_X12_sharpen_42 : decode cX12_sharpen 42 = .ok (.sipush 305, 3) := by decide +kernel
theorem d_X12_sharpen_45 : decode cX12_sharpen 45 = .ok (.iconst 0, 1) := by decide +kernel
theorem d_X12_sharpen_46 : decode cX12_sharpen 46 = .ok (.invokevirtual 162, 3) := by decide +kernel
theorem d_X12_sharpen_49 : decode cX12_sharpen 49 = .ok (.bipush (-2), 2) := by decide +kernel
theorem d_X12_sharpen_51 : decode cX12_sharpen 51 = .ok (.ireturn, 1) := by decide +kernel
theorem d_X12_sharpen_52 : decode cX12_sharpen 52 = .ok (.iconst 0, 1) := by decide +kernel
theorem d_X12_sharpen_53 : decode cX12_sharpen 53 = .ok (.istore_n 2, 1) := by decide +kernel
theorem d_X12_sharpen_54 : decode cX12_sharpen 54 = .ok (.iconst 0, 1) := by decide +kernel
theorem d_X12_sharpen_55 : decode cX12_sharpen 55 = .ok (.istore_n 3, 1) := by decide +kernel
theorem d_X12_sharpen_56 : decode cX12_sharpen 56 = .ok (.iload_n 3, 1) := by decide +kernel
theorem d_X12_sharpen_57 : decode cX12_sharpen 57 = .ok (.bipush 60, 2) := by decide +kernel
theorem d_X12_sharpen_59 : decode cX12_sharpen 59 = .ok (.if_icmp .ge 36, 3) := by decide +kernel
theorem d_X12_sharpen_62 : decode cX12_sharpen 62 = .ok (.iload_n 2, 1) := by decide +kernel
theorem d_X12_sharpen_63 : decode cX12_sharpen 63 = .ok (.aload_n 0, 1) := by decide +kernel
theorem d_X12_sharpen_64 : decode cX12_sharpen 64 = .ok (.getfield 7, 3) := by decide +kernel
theorem d_X12_sharpen_67 : decode cX12_sharpen 67 = .ok (.iload_n 3, 1) := by decide +kernel
theorem d_X12_sharpen_68 : decode cX12_sharpen 68 = .ok (.iaload, 1) := by decide +kernel
theorem d_X12_sharpen_69 : decode cX12_sharpen 69 = .ok (.aload_n 0, 1) := by decide +kernel
theorem d_X12_sharpen_70 : decode cX12_sharpen 70 = .ok (.getfield 7, 3) := by decide +kernel
theorem d_X12_sharpen_73 : decode cX12_sharpen 73 = .ok (.sipush 305, 3) := by decide +kernel
theorem d_X12_sharpen_76 : decode cX12_sharpen 76 = .ok (.iload_n 3, 1) := by decide +kernel
theorem d_X12_sharpen_77 : decode cX12_sharpen 77 = .ok (.iadd, 1) := by decide +kernel
theorem d_X12_sharpen_78 : decode cX12_sharpen 78 = .ok (.iaload, 1) := by decide +kernel
theorem d_X12_sharpen_79 : decode cX12_sharpen 79 = .ok (.if_icmp .ne 7, 3) := by decide +kernel
theorem d_X12_sharpen_82 : decode cX12_sharpen 82 = .ok (.iconst 0, 1) := by decide +kernel
theorem d_X12_sharpen_83 : decode cX12_sharpen 83 = .ok (.goto 4, 3) := by decide +kernel
theorem d_X12_sharpen_86 : decode cX12_sharpen 86 = .ok (.iconst 1, 1) := by decide +kernel
theorem d_X12_sharpen_87 : decode cX12_sharpen 87 = .ok (.iadd, 1) := by decide +kernel
theorem d_X12_sharpen_88 : decode cX12_sharpen 88 = .ok (.istore_n 2, 1) := by decide +kernel
theorem d_X12_sharpen_89 : decode cX12_sharpen 89 = .ok (.iinc 3 1, 3) := by decide +kernel
theorem d_X12_sharpen_92 : decode cX12_sharpen 92 = .ok (.goto (-36), 3) := by decide +kernel
theorem d_X12_sharpen_95 : decode cX12_sharpen 95 = .ok (.iload_n 2, 1) := by decide +kernel
theorem d_X12_sharpen_96 : decode cX12_sharpen 96 = .ok (.ireturn, 1) := by decide +kernel
theorem b_X12_sharpen_0 {X : cX} {d : Nat} {μ : mM} {K : Option Value → mM → Prop} {r0 : Nat} (hw12_r0 : WF12 μ r0) (hc_copies : Ct X (Rm (d + 2)) mX12_copies [.ref r0, .int 0, .int 305] μ (fun r μ2 => G X (Rm (d + 3)) mX12_sharpen 8 [(0, .ref r0)] (r.toList ++ []) μ2 0 0 K)) : G X (Rm (d + 3)) mX12_sharpen 0 [(0, .ref r0)] [] μ 0 0 K := by
  refine G_aload_n d_X12_sharpen_0 rfl 0 rfl ?_
  refine G_iconst d_X12_sharpen_1 ic_0 ?_
  refine G_sipush d_X12_sharpen_2 sp_305 ?_
  refine G_callV (M' := mX12_copies) (R' := (Rm (d + 2))) (S := []) [.int 0, .int 305] 12 (w12_kd hw12_r0) cok12 rfl ok_X12_copies ml_X12_162 pn_X12_copies (ru_Rm (by decide)) (Nat.le_of_ble_eq_true rfl) d_X12_sharpen_5 ?_
  exact hc_copies
theorem b_X12_sharpen_8 {X : cX} {d : Nat} {μ : mM} {K : Option Value → mM → Prop} {r0 : Nat} (hw12_r0 : WF12 μ r0) (h : G X (Rm (d + 3)) mX12_sharpen 15 [(0, .ref r0), (1, .int 1)] [] (wi μ r0 22 0) 0 0 K) : G X (Rm (d + 3)) mX12_sharpen 8 [(0, .ref r0)] [] μ 0 0 K := by
  refine G_aload_n d_X12_sharpen_8 rfl 0 rfl ?_
  refine G_iconst d_X12_sharpen_9 ic_0 ?_
  refine G_putI 12 22 (w12_kd hw12_r0) rfl rfl cok12 (by decide) rfl (Or.inl rfl) fl_X12_270 d_X12_sharpen_10 ?_
  refine G_iconst d_X12_sharpen_13 ic_1 ?_
  refine G_istore_n (L' := [(1, .int 1), (0, .ref r0)]) d_X12_sharpen_14 rfl (by decide) rfl ?_
  refine G_sub (L' := [(0, .ref r0), (1, .int 1)]) [1, 0] rfl ?_
  exact h
theorem b_X12_sharpen_15 {X : cX} {d : Nat} {μ : mM} {K : Option Value → mM → Prop} {r0 : Nat} {l1 : Int32} (h : l1 = 0 → G X (Rm (d + 3)) mX12_sharpen 34 [(0, .ref r0)] [] μ 0 0 K) (hw12_r0 : WF12 μ r0) (h_2 : ¬ l1 = 0 → ¬ (iv μ r0 22) = 0 → G X (Rm (d + 3)) mX12_sharpen 34 [(0, .ref r0)] [] μ 0 0 K) (hc_isSharper : ¬ l1 = 0 → (iv μ r0 22) = 0 → Ct X (Rm (d + 2)) mX12_isSharper [.ref r0] μ (fun r μ2 => G X (Rm (d + 3)) mX12_sharpen 30 [(0, .ref r0)] (r.toList ++ []) μ2 0 0 K)) : G X (Rm (d + 3)) mX12_sharpen 15 [(0, .ref r0), (1, .int l1)] [] μ 0 0 K := by
  refine G_iload_n d_X12_sharpen_15 rfl 1 rfl ?_
  refine G_if_eq (tgt := 34) d_X12_sharpen_16 rfl (fun c0 => ?_) (fun c0 => ?_)
  ·
    refine G_sub (L' := [(0, .ref r0)]) [0] rfl ?_
    exact (h c0)
  ·
    refine G_aload_n d_X12_sharpen_19 rfl 0 rfl ?_
    refine G_getI 12 22 (w12_kd hw12_r0) cok12 (by decide) rfl fl_X12_270 d_X12_sharpen_20 ?_
    refine G_if_ne (tgt := 34) d_X12_sharpen_23 rfl (fun c1 => ?_) (fun c1 => ?_)
    ·
      refine G_sub (L' := [(0, .ref r0)]) [0] rfl ?_
      exact (h_2 c0 c1)
    ·
      refine G_aload_n d_X12_sharpen_26 rfl 0 rfl ?_
      refine G_sub (L' := [(0, .ref r0)]) [0] rfl ?_
      refine G_callV (M' := mX12_isSharper) (R' := (Rm (d + 2))) (S := []) [] 12 (w12_kd hw12_r0) cok12 rfl ok_X12_isSharper ml_X12_278 pn_X12_isSharper (ru_Rm (by decide)) (Nat.le_of_ble_eq_true rfl) d_X12_sharpen_27 ?_
      exact (hc_isSharper c0 c1)
theorem b_X12_sharpen_30 {X : cX} {d : Nat} {μ : mM} {K : Option Value → mM → Prop} {r0 : Nat} {v0 : Int32} (h : G X (Rm (d + 3)) mX12_sharpen 15 [(0, .ref r0), (1, .int v0)] [] μ 0 0 K) : G X (Rm (d + 3)) mX12_sharpen 30 [(0, .ref r0)] [.int v0] μ 0 0 K := by
  refine G_istore_n (L' := [(1, .int v0), (0, .ref r0)]) d_X12_sharpen_30 rfl (by decide) rfl ?_
  refine G_goto (tgt := 15) d_X12_sharpen_31 rfl ?_
  refine G_sub (L' := [(0, .ref r0), (1, .int v0)]) [1, 0] rfl ?_
  exact h
theorem b_X12_sharpen_34 {X : cX} {d : Nat} {μ : mM} {K : Option Value → mM → Prop} {r0 : Nat} (hw12_r0 : WF12 μ r0) (h : (iv μ r0 22) = 0 → G X (Rm (d + 3)) mX12_sharpen 56 [(0, .ref r0), (2, .int 0), (3, .int (nI 0))] [] μ 0 0 K) (hc_copies : ¬ (iv μ r0 22) = 0 → Ct X (Rm (d + 2)) mX12_copies [.ref r0, .int 305, .int 0] μ (fun r μ2 => G X (Rm (d + 3)) mX12_sharpen 49 [] (r.toList ++ []) μ2 0 0 K)) : G X (Rm (d + 3)) mX12_sharpen 34 [(0, .ref r0)] [] μ 0 0 K := by
  refine G_aload_n d_X12_sharpen_34 rfl 0 rfl ?_
  refine G_getI 12 22 (w12_kd hw12_r0) cok12 (by decide) rfl fl_X12_270 d_X12_sharpen_35 ?_
  refine G_if_eq (tgt := 52) d_X12_sharpen_38 rfl (fun c0 => ?_) (fun c0 => ?_)
  ·
    refine G_iconst d_X12_sharpen_52 ic_0 ?_
    refine G_istore_n (L' := [(2, .int 0), (0, .ref r0)]) d_X12_sharpen_53 rfl (by decide) rfl ?_
    refine G_iconst d_X12_sharpen_54 ic_0 ?_
    refine G_istore_n (L' := [(3, .int (nI 0)), (2, .int 0), (0, .ref r0)]) d_X12_sharpen_55 rfl (by decide) rfl ?_
    refine G_sub (L' := [(0, .ref r0), (2, .int 0), (3, .int (nI 0))]) [2, 1, 0] rfl ?_
    exact (h c0)
  ·
    refine G_aload_n d_X12_sharpen_41 rfl 0 rfl ?_
    refine G_sipush d_X12_sharpen_42 sp_305 ?_
    refine G_iconst d_X12_sharpen_45 ic_0 ?_
    refine G_sub (L' := []) [] rfl ?_
    refine G_callV (M' := mX12_copies) (R' := (Rm (d + 2))) (S := []) [.int 305, .int 0] 12 (w12_kd hw12_r0) cok12 rfl ok_X12_copies ml_X12_162 pn_X12_copies (ru_Rm (by decide)) (Nat.le_of_ble_eq_true rfl) d_X12_sharpen_46 ?_
    exact (hc_copies c0)
theorem b_X12_sharpen_49 {X : cX} {d : Nat} {μ : mM} {K : Option Value → mM → Prop}  (hK : K (some (.int (-2))) μ) : G X (Rm (d + 3)) mX12_sharpen 49 [] [] μ 0 0 K := by
  refine G_bipush d_X12_sharpen_49 bp_m2 ?_
  exact G_iret rfl rfl rfl d_X12_sharpen_51 hK
theorem b_X12_sharpen_56 {X : cX} {d : Nat} {μ : mM} {K : Option Value → mM → Prop} {r0 : Nat} {l2 : Int32} {i3 : Nat} (hK : (60 : Int32) ≤ (nI i3) → K (some (.int l2)) μ) (hw12_r0 : WF12 μ r0) (hb : ¬ (60 : Int32) ≤ (nI i3) → i3 < 366) (hb_2 : ¬ (60 : Int32) ≤ (nI i3) → (305 + i3) < 366) (h : ¬ (60 : Int32) ≤ (nI i3) → ¬ (iv μ (r0 + 1) i3) = (iv μ (r0 + 1) (305 + i3)) → G X (Rm (d + 3)) mX12_sharpen 87 [(0, .ref r0), (3, .int (nI i3))] [.int 1, .int l2] μ 0 0 K) (h_2 : ¬ (60 : Int32) ≤ (nI i3) → (iv μ (r0 + 1) i3) = (iv μ (r0 + 1) (305 + i3)) → G X (Rm (d + 3)) mX12_sharpen 87 [(0, .ref r0), (3, .int (nI i3))] [.int 0, .int l2] μ 0 0 K) : G X (Rm (d + 3)) mX12_sharpen 56 [(0, .ref r0), (2, .int l2), (3, .int (nI i3))] [] μ 0 0 K := by
  refine G_iload_n d_X12_sharpen_56 rfl 2 rfl ?_
  refine G_bipush d_X12_sharpen_57 bp_60 ?_
  refine G_icmp_ge (tgt := 95) d_X12_sharpen_59 rfl (fun c0 => ?_) (fun c0 => ?_)
  ·
    refine G_iload_n d_X12_sharpen_95 rfl 1 rfl ?_
    exact G_iret rfl rfl rfl d_X12_sharpen_96 (hK c0)
  ·
    refine G_iload_n d_X12_sharpen_62 rfl 1 rfl ?_
    refine G_aload_n d_X12_sharpen_63 rfl 0 rfl ?_
    refine G_getR (r := r0 + 1) 12 0 (w12_kd hw12_r0) (w12_f0 hw12_r0) cok12 (by decide) rfl fl_X12_7 d_X12_sharpen_64 ?_
    refine G_iload_n d_X12_sharpen_67 rfl 2 rfl ?_
    refine G_iald i3 (w12_k0 hw12_r0) rfl (hb c0) d_X12_sharpen_68 ?_
    refine G_aload_n d_X12_sharpen_69 rfl 0 rfl ?_
    refine G_getR (r := r0 + 1) 12 0 (w12_kd hw12_r0) (w12_f0 hw12_r0) cok12 (by decide) rfl fl_X12_7 d_X12_sharpen_70 ?_
    refine G_sipush d_X12_sharpen_73 sp_305 ?_
    refine G_iload_n d_X12_sharpen_76 rfl 2 rfl ?_
    refine G_iadd d_X12_sharpen_77 ?_
    refine G_iald (305 + i3) (w12_k0 hw12_r0) (nadd rfl rfl) (hb_2 c0) d_X12_sharpen_78 ?_
    refine G_icmp_ne (tgt := 86) d_X12_sharpen_79 rfl (fun c1 => ?_) (fun c1 => ?_)
    ·
      refine G_iconst d_X12_sharpen_86 ic_1 ?_
      refine G_sub (L' := [(0, .ref r0), (3, .int (nI i3))]) [0, 2] rfl ?_
      exact (h c0 c1)
    ·
      refine G_iconst d_X12_sharpen_82 ic_0 ?_
      refine G_goto (tgt := 87) d_X12_sharpen_83 rfl ?_
      refine G_sub (L' := [(0, .ref r0), (3, .int (nI i3))]) [0, 2] rfl ?_
      exact (h_2 c0 c1)
theorem b_X12_sharpen_87 {X : cX} {d : Nat} {μ : mM} {K : Option Value → mM → Prop} {r0 : Nat} {i3 : Nat} {v0 : Int32} {v1 : Int32} (h : G X (Rm (d + 3)) mX12_sharpen 56 [(0, .ref r0), (2, .int (v0 + v1)), (3, .int (nI (i3 + 1)))] [] μ 0 0 K) : G X (Rm (d + 3)) mX12_sharpen 87 [(0, .ref r0), (3, .int (nI i3))] [.int v1, .int v0] μ 0 0 K := by
  refine G_iadd d_X12_sharpen_87 ?_
  refine G_istore_n (L' := [(2, .int (v0 + v1)), (0, .ref r0), (3, .int (nI i3))]) d_X12_sharpen_88 rfl (by decide) rfl ?_
  refine G_iinc (L' := [(3, .int (nI (i3 + 1))), (2, .int (v0 + v1)), (0, .ref r0)]) d_X12_sharpen_89 2 rfl (inc1 i3) (by decide) rfl ?_
  refine G_goto (tgt := 56) d_X12_sharpen_92 rfl ?_
  refine G_sub (L' := [(0, .ref r0), (2, .int (v0 + v1)), (3, .int (nI (i3 + 1)))]) [2, 1, 0] rfl ?_
  exact h
theorem d_X12_wayOf_0 : decode cX12_wayOf 0 = .ok (.aload_n 0, 1) := by decide +kernel
theorem d_X12_wayOf_1 : decode cX12_wayOf 1 = .ok (.iload_n 1, 1) := by decide +kernel
theorem d_X12_wayOf_2 : decode cX12_wayOf 2 = .ok (.invokevirtual 210, 3) := by decide +kernel
theorem d_X12_wayOf_5 : decode cX12_wayOf 5 = .ok (.iconst 2, 1) := by decide +kernel
theorem d_X12_wayOf_6 : decode cX12_wayOf 6 = .ok (.if_icmp .ne 7, 3) := by decide +kernel
theorem d_X12_wayOf_9 : decode cX12_wayOf 9 = .ok (.iconst 1, 1) := by decide +kernel
theorem d_X12_wayOf_10 : decode cX12_wayOf 10 = .ok (.goto 4, 3) := by decide +kernel
theorem d_X12_wayOf_13 : decode cX12_wayOf 13 = .ok (.iconst 0, 1) := by decide +kernel
theorem d_X12_wayOf_14 : decode cX12_wayOf 14 = .ok (.istore_n 3, 1) := by decide +kernel
theorem d_X12_wayOf_15 : decode cX12_wayOf 15 = .ok (.iload_n 2, 1) := by decide +kernel
theorem d_X12_wayOf_16 : decode cX12_wayOf 16 = .ok (.istore 4, 2) := by decide +kernel
theorem d_X12_wayOf_18 : decode cX12_wayOf 18 = .ok (.iload_n 3, 1) := by decide +kernel
theorem d_X12_wayOf_19 : decode cX12_wayOf 19 = .ok (.ifCond .ne 13, 3) := by decide +kernel
theorem d_X12_wayOf_22 : decode cX12_wayOf 22 = .ok (.iload 4, 2) := by decide +kernel
theorem d_X12_wayOf_24 : decode cX12_wayOf 24 = .ok (.ifCond .ne 5, 3) := by decide +kernel
theorem d_X12_wayOf_27 : decode cX12_wayOf 27 = .ok (.iconst (-1), 1) := by decide +kernel
theorem d_X12_wayOf_28 : decode cX12_wayOf 28 = .ok (.ireturn, 1) := by decide +kernel
theorem d_X12_wayOf_29 : decode cX12_wayOf 29 = .ok (.iinc 4 (-1), 3) := by decide +kernel
theorem d_X12_wayOf_32 : decode cX12_wayOf 32 = .ok (.iconst 0, 1) := by decide +kernel
theorem d_X12_wayOf_33 : decode cX12_wayOf 33 = .ok (.istore 5, 2) := by decide +kernel
theorem d_X12_wayOf_35 : decode cX12_wayOf 35 = .ok (.iload 5, 2) := by decide +kernel
theorem d_X12_wayOf_37 : decode cX12_wayOf 37 = .ok (.aload_n 0, 1) := by decide +kernel
theorem d_X12_wayOf_38 : decode cX12_wayOf 38 = .ok (.invokevirtual 169, 3) := by decide +kernel
theorem d_X12_wayOf_41 : decode cX12_wayOf 41 = .ok (.if_icmp .ge 82, 3) := by decide +kernel
theorem d_X12_wayOf_44 : decode cX12_wayOf 44 = .ok (.aload_n 0, 1) := by decide +kernel
theorem d_X12_wayOf_45 : decode cX12_wayOf 45 = .ok (.iload_n 1, 1) := by decide +kernel
theorem d_X12_wayOf_46 : decode cX12_wayOf 46 = .ok (.iload 5, 2) := by decide +kernel
theorem d_X12_wayOf_48 : decode cX12_wayOf 48 = .ok (.invokevirtual 178, 3) := by decide +kernel
theorem d_X12_wayOf_51 : decode cX12_wayOf 51 = .ok (.iconst 2, 1) := by decide +kernel
theorem d_X12_wayOf_52 : decode cX12_wayOf 52 = .ok (.if_icmp .eq 18, 3) := by decide +kernel
theorem d_X12_wayOf_55 : decode cX12_wayOf 55 = .ok (.iload_n 3, 1) := by decide +kernel
theorem d_X12_wayOf_56 : decode cX12_wayOf 56 = .ok (.ifCond .ne 61, 3) := by decide +kernel
theorem d_X12_wayOf_59 : decode cX12_wayOf 59 = .ok (.aload_n 0, 1) := by decide +kernel
theorem d_X12_wayOf_60 : decode cX12_wayOf 60 = .ok (.iload_n 1, 1) := by decide +kernel
theorem d_X12_wayOf_61 : decode cX12_wayOf 61 = .ok (.iload 5, 2) := by decide +kernel
theorem d_X12_wayOf_63 : decode cX12_wayOf 63 = .ok (.invokevirtual 178, 3) := by decide +kernel
theorem d_X12_wayOf_66 : decode cX12_wayOf 66 = .ok (.iconst 1, 1) := by decide +kernel
theorem d_X12_wayOf_67 : decode cX12_wayOf 67 = .ok (.if_icmp .ne 50, 3) := by decide +kernel
theorem d_X12_wayOf_70 : decode cX12_wayOf 70 = .ok (.iload 4, 2) := by decide +kernel
theorem d_X12_wayOf_72 : decode cX12_wayOf 72 = .ok (.ifCond .ne 6, 3) := by decide +kernel
theorem d_X12_wayOf_75 : decode cX12_wayOf 75 = .ok (.iload 5, 2) := by decide +kernel
theorem d_X12_wayOf_77 : decode cX12_wayOf 77 = .ok (.ireturn, 1) := by decide +kernel
theorem d_X12_wayOf_78 : decode cX12_wayOf 78 = .ok (.iinc 4 (-1), 3) := by decide +kernel
theorem d_X12_wayOf_81 : decode cX12_wayOf 81 = .ok (.aload_n 0, 1) := by decide +kernel
theorem d_X12_wayOf_82 : decode cX12_wayOf 82 = .ok (.getfield 7, 3) := by decide +kernel
theorem d_X12_wayOf_85 : decode cX12_wayOf 85 = .ok (.iload 5, 2) := by decide +kernel
theorem d_X12_wayOf_87 : decode cX12_wayOf 87 = .ok (.iaload, 1) := by decide +kernel
theorem d_X12_wayOf_88 : decode cX12_wayOf 88 = .ok (.iconst 1, 1) := by decide +kernel
theorem d_X12_wayOf_89 : decode cX12_wayOf 89 = .ok (.if_icmp .ne 28, 3) := by decide +kernel
theorem d_X12_wayOf_92 : decode cX12_wayOf 92 = .ok (.aload_n 0, 1) := by decide +kernel
theorem d_X12_wayOf_93 : decode cX12_wayOf 93 = .ok (.iload_n 1, 1) := by decide +kernel
theorem d_X12_wayOf_94 : decode cX12_wayOf 94 = .ok (.iload 5, 2) := by decide +kernel
theorem d_X12_wayOf_96 : decode cX12_wayOf 96 = .ok (.invokevirtual 178, 3) := by decide +kernel
theorem d_X12_wayOf_99 : decode cX12_wayOf 99 = .ok (.iconst 1, 1) := by decide +kernel
theorem d_X12_wayOf_100 : decode cX12_wayOf 100 = .ok (.if_icmp .ne 17, 3) := by decide +kernel
theorem d_X12_wayOf_103 : decode cX12_wayOf 103 = .ok (.iload 4, 2) := by decide +kernel
theorem d_X12_wayOf_105 : decode cX12_wayOf 105 = .ok (.ifCond .ne 9, 3) := by decide +kernel
theorem d_X12_wayOf_108 : decode cX12_wayOf 108 = .ok (.bipush 6, 2) := by decide +kernel
theorem d_X12_wayOf_110 : decode cX12_wayOf 110 = .ok (.iload 5, 2) := by decide +kernel
theorem d_X12_wayOf_112 : decode cX12_wayOf 112 = .ok (.iadd, 1) := by decide +kernel
theorem d_X12_wayOf_113 : decode cX12_wayOf 113 = .ok (.ireturn, 1) := by decide +kernel
theorem d_X12_wayOf_114 : decode cX12_wayOf 114 = .ok (.iinc 4 (-1), 3) := by decide +kernel
theorem d_X12_wayOf_117 : decode cX12_wayOf 117 = .ok (.iinc 5 1, 3) := by decide +kernel
theorem d_X12_wayOf_120 : decode cX12_wayOf 120 = .ok (.goto (-85), 3) := by decide +kernel
theorem d_X12_wayOf_123 : decode cX12_wayOf 123 = .ok (.bipush (-4), 2) := by decide +kernel
theorem d_X12_wayOf_125 : decode cX12_wayOf 125 = .ok (.ireturn, 1) := by decide +kernel
theorem b_X12_wayOf_0 {X : cX} {d : Nat} {μ : mM} {K : Option Value → mM → Prop} {r0 : Nat} {l1 : Int32} {l2 : Int32} (hw12_r0 : WF12 μ r0) (hc_heldOf : Ct X (Rm (d + 1)) mX12_heldOf [.ref r0, .int l1] μ (fun r μ2 => G X (Rm (d + 2)) mX12_wayOf 5 [(0, .ref r0), (1, .int l1), (2, .int l2)] (r.toList ++ []) μ2 0 0 K)) : G X (Rm (d + 2)) mX12_wayOf 0 [(0, .ref r0), (1, .int l1), (2, .int l2)] [] μ 0 0 K := by
  refine G_aload_n d_X12_wayOf_0 rfl 0 rfl ?_
  refine G_iload_n d_X12_wayOf_1 rfl 1 rfl ?_
  refine G_callV (M' := mX12_heldOf) (R' := (Rm (d + 1))) (S := []) [.int l1] 12 (w12_kd hw12_r0) cok12 rfl ok_X12_heldOf ml_X12_210 pn_X12_heldOf (ru_Rm (by decide)) (Nat.le_of_ble_eq_true rfl) d_X12_wayOf_2 ?_
  exact hc_heldOf
theorem b_X12_wayOf_5 {X : cX} {d : Nat} {μ : mM} {K : Option Value → mM → Prop} {r0 : Nat} {l1 : Int32} {l2 : Int32} {v0 : Int32} (h : ¬ v0 = (2 : Int32) → G X (Rm (d + 2)) mX12_wayOf 14 [(0, .ref r0), (1, .int l1), (2, .int l2)] [.int 0] μ 0 0 K) (h_2 : v0 = (2 : Int32) → G X (Rm (d + 2)) mX12_wayOf 14 [(0, .ref r0), (1, .int l1), (2, .int l2)] [.int 1] μ 0 0 K) : G X (Rm (d + 2)) mX12_wayOf 5 [(0, .ref r0), (1, .int l1), (2, .int l2)] [.int v0] μ 0 0 K := by
  refine G_iconst d_X12_wayOf_5 ic_2 ?_
  refine G_icmp_ne (tgt := 13) d_X12_wayOf_6 rfl (fun c0 => ?_) (fun c0 => ?_)
  ·
    refine G_iconst d_X12_wayOf_13 ic_0 ?_
    exact (h c0)
  ·
    refine G_iconst d_X12_wayOf_9 ic_1 ?_
    refine G_goto (tgt := 14) d_X12_wayOf_10 rfl ?_
    exact (h_2 c0)
theorem b_X12_wayOf_14 {X : cX} {d : Nat} {μ : mM} {K : Option Value → mM → Prop} {r0 : Nat} {l1 : Int32} {l2 : Int32} {v0 : Int32} (h : ¬ v0 = 0 → G X (Rm (d + 2)) mX12_wayOf 32 [(0, .ref r0), (1, .int l1), (3, .int v0), (4, .int l2)] [] μ 0 0 K) (h_2 : v0 = 0 → ¬ l2 = 0 → G X (Rm (d + 2)) mX12_wayOf 32 [(0, .ref r0), (1, .int l1), (3, .int v0), (4, .int (l2 + (-1)))] [] μ 0 0 K) (hK : v0 = 0 → l2 = 0 → K (some (.int (-1))) μ) : G X (Rm (d + 2)) mX12_wayOf 14 [(0, .ref r0), (1, .int l1), (2, .int l2)] [.int v0] μ 0 0 K := by
  refine G_istore_n (L' := [(3, .int v0), (0, .ref r0), (1, .int l1), (2, .int l2)]) d_X12_wayOf_14 rfl (by decide) rfl ?_
  refine G_iload_n d_X12_wayOf_15 rfl 3 rfl ?_
  refine G_istore (L' := [(4, .int l2), (3, .int v0), (0, .ref r0), (1, .int l1), (2, .int l2)]) d_X12_wayOf_16 (by decide) rfl ?_
  refine G_iload_n d_X12_wayOf_18 rfl 1 rfl ?_
  refine G_if_ne (tgt := 32) d_X12_wayOf_19 rfl (fun c0 => ?_) (fun c0 => ?_)
  ·
    refine G_sub (L' := [(0, .ref r0), (1, .int l1), (3, .int v0), (4, .int l2)]) [2, 3, 1, 0] rfl ?_
    exact (h c0)
  ·
    refine G_iload d_X12_wayOf_22 0 rfl ?_
    refine G_if_ne (tgt := 29) d_X12_wayOf_24 rfl (fun c1 => ?_) (fun c1 => ?_)
    ·
      refine G_iinc (L' := [(4, .int (l2 + (-1))), (3, .int v0), (0, .ref r0), (1, .int l1), (2, .int l2)]) d_X12_wayOf_29 0 rfl (decI _) (by decide) rfl ?_
      refine G_sub (L' := [(0, .ref r0), (1, .int l1), (3, .int v0), (4, .int (l2 + (-1)))]) [2, 3, 1, 0] rfl ?_
      exact (h_2 c0 c1)
    ·
      refine G_iconst d_X12_wayOf_27 ic_m1 ?_
      exact G_iret rfl rfl rfl d_X12_wayOf_28 (hK c0 c1)
theorem b_X12_wayOf_32 {X : cX} {d : Nat} {μ : mM} {K : Option Value → mM → Prop} {r0 : Nat} {l1 : Int32} {l3 : Int32} {l4 : Int32} (h : G X (Rm (d + 2)) mX12_wayOf 35 [(0, .ref r0), (1, .int l1), (3, .int l3), (4, .int l4), (5, .int (nI 0))] [] μ 0 0 K) : G X (Rm (d + 2)) mX12_wayOf 32 [(0, .ref r0), (1, .int l1), (3, .int l3), (4, .int l4)] [] μ 0 0 K := by
  refine G_iconst d_X12_wayOf_32 ic_0 ?_
  refine G_istore (L' := [(5, .int (nI 0)), (0, .ref r0), (1, .int l1), (3, .int l3), (4, .int l4)]) d_X12_wayOf_33 (by decide) rfl ?_
  refine G_sub (L' := [(0, .ref r0), (1, .int l1), (3, .int l3), (4, .int l4), (5, .int (nI 0))]) [1, 2, 3, 4, 0] rfl ?_
  exact h
theorem b_X12_wayOf_35 {X : cX} {d : Nat} {μ : mM} {K : Option Value → mM → Prop} {r0 : Nat} {i1 : Nat} {l3 : Int32} {l4 : Int32} {i5 : Nat} (hw12_r0 : WF12 μ r0) (hK : (e_X12_nodes μ r0) ≤ (nI i5) → K (some (.int (-4))) μ) (hs : ¬ (e_X12_nodes μ r0) ≤ (nI i5) → ((6 + (6 * i1)) + i5) < 366) (h : ¬ (e_X12_nodes μ r0) ≤ (nI i5) → (e_X12_atOf μ r0 i1 i5) = (2 : Int32) → G X (Rm (d + 2)) mX12_wayOf 70 [(0, .ref r0), (1, .int (nI i1)), (3, .int l3), (4, .int l4), (5, .int (nI i5))] [] μ 0 0 K) (h_2 : ¬ (e_X12_nodes μ r0) ≤ (nI i5) → ¬ (e_X12_atOf μ r0 i1 i5) = (2 : Int32) → ¬ l3 = 0 → G X (Rm (d + 2)) mX12_wayOf 117 [(0, .ref r0), (1, .int (nI i1)), (3, .int l3), (4, .int l4), (5, .int (nI i5))] [] μ 0 0 K) (hs_2 : ¬ (e_X12_nodes μ r0) ≤ (nI i5) → ¬ (e_X12_atOf μ r0 i1 i5) = (2 : Int32) → l3 = 0 → ((6 + (6 * i1)) + i5) < 366) (h_3 : ¬ (e_X12_nodes μ r0) ≤ (nI i5) → ¬ (e_X12_atOf μ r0 i1 i5) = (2 : Int32) → l3 = 0 → ¬ (e_X12_atOf μ r0 i1 i5) = (1 : Int32) → G X (Rm (d + 2)) mX12_wayOf 117 [(0, .ref r0), (1, .int (nI i1)), (3, .int l3), (4, .int l4), (5, .int (nI i5))] [] μ 0 0 K) (h_4 : ¬ (e_X12_nodes μ r0) ≤ (nI i5) → ¬ (e_X12_atOf μ r0 i1 i5) = (2 : Int32) → l3 = 0 → (e_X12_atOf μ r0 i1 i5) = (1 : Int32) → G X (Rm (d + 2)) mX12_wayOf 70 [(0, .ref r0), (1, .int (nI i1)), (3, .int l3), (4, .int l4), (5, .int (nI i5))] [] μ 0 0 K) : G X (Rm (d + 2)) mX12_wayOf 35 [(0, .ref r0), (1, .int (nI i1)), (3, .int l3), (4, .int l4), (5, .int (nI i5))] [] μ 0 0 K := by
  refine G_iload d_X12_wayOf_35 4 rfl ?_
  refine G_aload_n d_X12_wayOf_37 rfl 0 rfl ?_
  refine G_callV (M' := mX12_nodes) (R' := (Rm (d + 1))) (S := [.int (nI i5)]) [] 12 (w12_kd hw12_r0) cok12 rfl ok_X12_nodes ml_X12_169 pn_X12_nodes (ru_Rm (by decide)) (Nat.le_of_ble_eq_true rfl) d_X12_wayOf_38 (s_X12_nodes (μ := μ)  hw12_r0 ?_)
  show G X (Rm (d + 2)) mX12_wayOf 41 [(0, .ref r0), (1, .int (nI i1)), (3, .int l3), (4, .int l4), (5, .int (nI i5))] [.int (e_X12_nodes μ r0), .int (nI i5)] μ 0 0 K
  refine G_icmp_ge (tgt := 123) d_X12_wayOf_41 rfl (fun c0 => ?_) (fun c0 => ?_)
  ·
    refine G_bipush d_X12_wayOf_123 bp_m4 ?_
    exact G_iret rfl rfl rfl d_X12_wayOf_125 (hK c0)
  ·
    refine G_aload_n d_X12_wayOf_44 rfl 0 rfl ?_
    refine G_iload_n d_X12_wayOf_45 rfl 1 rfl ?_
    refine G_iload d_X12_wayOf_46 4 rfl ?_
    refine G_callV (M' := mX12_atOf) (R' := (Rm (d + 1))) (S := []) [.int (nI i1), .int (nI i5)] 12 (w12_kd hw12_r0) cok12 rfl ok_X12_atOf ml_X12_178 pn_X12_atOf (ru_Rm (by decide)) (Nat.le_of_ble_eq_true rfl) d_X12_wayOf_48 (s_X12_atOf (μ := μ) (i1 := i1) (i2 := i5) hw12_r0 (hs c0) ?_)
    show G X (Rm (d + 2)) mX12_wayOf 51 [(0, .ref r0), (1, .int (nI i1)), (3, .int l3), (4, .int l4), (5, .int (nI i5))] [.int (e_X12_atOf μ r0 i1 i5)] μ 0 0 K
    refine G_iconst d_X12_wayOf_51 ic_2 ?_
    refine G_icmp_eq (tgt := 70) d_X12_wayOf_52 rfl (fun c1 => ?_) (fun c1 => ?_)
    ·
      exact (h c0 c1)
    ·
      refine G_iload_n d_X12_wayOf_55 rfl 2 rfl ?_
      refine G_if_ne (tgt := 117) d_X12_wayOf_56 rfl (fun c2 => ?_) (fun c2 => ?_)
      ·
        exact (h_2 c0 c1 c2)
      ·
        refine G_aload_n d_X12_wayOf_59 rfl 0 rfl ?_
        refine G_iload_n d_X12_wayOf_60 rfl 1 rfl ?_
        refine G_iload d_X12_wayOf_61 4 rfl ?_
        refine G_callV (M' := mX12_atOf) (R' := (Rm (d + 1))) (S := []) [.int (nI i1), .int (nI i5)] 12 (w12_kd hw12_r0) cok12 rfl ok_X12_atOf ml_X12_178 pn_X12_atOf (ru_Rm (by decide)) (Nat.le_of_ble_eq_true rfl) d_X12_wayOf_63 (s_X12_atOf (μ := μ) (i1 := i1) (i2 := i5) hw12_r0 (hs_2 c0 c1 c2) ?_)
        show G X (Rm (d + 2)) mX12_wayOf 66 [(0, .ref r0), (1, .int (nI i1)), (3, .int l3), (4, .int l4), (5, .int (nI i5))] [.int (e_X12_atOf μ r0 i1 i5)] μ 0 0 K
        refine G_iconst d_X12_wayOf_66 ic_1 ?_
        refine G_icmp_ne (tgt := 117) d_X12_wayOf_67 rfl (fun c3 => ?_) (fun c3 => ?_)
        ·
          exact (h_3 c0 c1 c2 c3)
        ·
          exact (h_4 c0 c1 c2 c3)
theorem b_X12_wayOf_70 {X : cX} {d : Nat} {μ : mM} {K : Option Value → mM → Prop} {r0 : Nat} {i1 : Nat} {l3 : Int32} {l4 : Int32} {i5 : Nat} (hw12_r0 : WF12 μ r0) (hb : ¬ l4 = 0 → i5 < 366) (h : ¬ l4 = 0 → ¬ (iv μ (r0 + 1) i5) = (1 : Int32) → G X (Rm (d + 2)) mX12_wayOf 117 [(0, .ref r0), (1, .int (nI i1)), (3, .int l3), (4, .int (l4 + (-1))), (5, .int (nI i5))] [] μ 0 0 K) (hs : ¬ l4 = 0 → (iv μ (r0 + 1) i5) = (1 : Int32) → ((6 + (6 * i1)) + i5) < 366) (h_2 : ¬ l4 = 0 → (iv μ (r0 + 1) i5) = (1 : Int32) → ¬ (e_X12_atOf μ r0 i1 i5) = (1 : Int32) → G X (Rm (d + 2)) mX12_wayOf 117 [(0, .ref r0), (1, .int (nI i1)), (3, .int l3), (4, .int (l4 + (-1))), (5, .int (nI i5))] [] μ 0 0 K) (h_3 : ¬ l4 = 0 → (iv μ (r0 + 1) i5) = (1 : Int32) → (e_X12_atOf μ r0 i1 i5) = (1 : Int32) → ¬ (l4 + (-1)) = 0 → G X (Rm (d + 2)) mX12_wayOf 117 [(0, .ref r0), (1, .int (nI i1)), (3, .int l3), (4, .int (l4 + (-1) + (-1))), (5, .int (nI i5))] [] μ 0 0 K) (hK : ¬ l4 = 0 → (iv μ (r0 + 1) i5) = (1 : Int32) → (e_X12_atOf μ r0 i1 i5) = (1 : Int32) → (l4 + (-1)) = 0 → K (some (.int ((6 : Int32) + (nI i5)))) μ) (hK_2 : l4 = 0 → K (some (.int (nI i5))) μ) : G X (Rm (d + 2)) mX12_wayOf 70 [(0, .ref r0), (1, .int (nI i1)), (3, .int l3), (4, .int l4), (5, .int (nI i5))] [] μ 0 0 K := by
  refine G_iload d_X12_wayOf_70 3 rfl ?_
  refine G_if_ne (tgt := 78) d_X12_wayOf_72 rfl (fun c0 => ?_) (fun c0 => ?_)
  ·
    refine G_iinc (L' := [(4, .int (l4 + (-1))), (0, .ref r0), (1, .int (nI i1)), (3, .int l3), (5, .int (nI i5))]) d_X12_wayOf_78 3 rfl (decI _) (by decide) rfl ?_
    refine G_aload_n d_X12_wayOf_81 rfl 1 rfl ?_
    refine G_getR (r := r0 + 1) 12 0 (w12_kd hw12_r0) (w12_f0 hw12_r0) cok12 (by decide) rfl fl_X12_7 d_X12_wayOf_82 ?_
    refine G_iload d_X12_wayOf_85 4 rfl ?_
    refine G_iald i5 (w12_k0 hw12_r0) rfl (hb c0) d_X12_wayOf_87 ?_
    refine G_iconst d_X12_wayOf_88 ic_1 ?_
    refine G_icmp_ne (tgt := 117) d_X12_wayOf_89 rfl (fun c1 => ?_) (fun c1 => ?_)
    ·
      refine G_sub (L' := [(0, .ref r0), (1, .int (nI i1)), (3, .int l3), (4, .int (l4 + (-1))), (5, .int (nI i5))]) [1, 2, 3, 0, 4] rfl ?_
      exact (h c0 c1)
    ·
      refine G_aload_n d_X12_wayOf_92 rfl 1 rfl ?_
      refine G_iload_n d_X12_wayOf_93 rfl 2 rfl ?_
      refine G_iload d_X12_wayOf_94 4 rfl ?_
      refine G_callV (M' := mX12_atOf) (R' := (Rm (d + 1))) (S := []) [.int (nI i1), .int (nI i5)] 12 (w12_kd hw12_r0) cok12 rfl ok_X12_atOf ml_X12_178 pn_X12_atOf (ru_Rm (by decide)) (Nat.le_of_ble_eq_true rfl) d_X12_wayOf_96 (s_X12_atOf (μ := μ) (i1 := i1) (i2 := i5) hw12_r0 (hs c0 c1) ?_)
      show G X (Rm (d + 2)) mX12_wayOf 99 [(4, .int (l4 + (-1))), (0, .ref r0), (1, .int (nI i1)), (3, .int l3), (5, .int (nI i5))] [.int (e_X12_atOf μ r0 i1 i5)] μ 0 0 K
      refine G_iconst d_X12_wayOf_99 ic_1 ?_
      refine G_icmp_ne (tgt := 117) d_X12_wayOf_100 rfl (fun c2 => ?_) (fun c2 => ?_)
      ·
        refine G_sub (L' := [(0, .ref r0), (1, .int (nI i1)), (3, .int l3), (4, .int (l4 + (-1))), (5, .int (nI i5))]) [1, 2, 3, 0, 4] rfl ?_
        exact (h_2 c0 c1 c2)
      ·
        refine G_iload d_X12_wayOf_103 0 rfl ?_
        refine G_if_ne (tgt := 114) d_X12_wayOf_105 rfl (fun c3 => ?_) (fun c3 => ?_)
        ·
          refine G_iinc (L' := [(4, .int (l4 + (-1) + (-1))), (0, .ref r0), (1, .int (nI i1)), (3, .int l3), (5, .int (nI i5))]) d_X12_wayOf_114 0 rfl (decI _) (by decide) rfl ?_
          refine G_sub (L' := [(0, .ref r0), (1, .int (nI i1)), (3, .int l3), (4, .int (l4 + (-1) + (-1))), (5, .int (nI i5))]) [1, 2, 3, 0, 4] rfl ?_
          exact (h_3 c0 c1 c2 c3)
        ·
          refine G_bipush d_X12_wayOf_108 bp_6 ?_
          refine G_iload d_X12_wayOf_110 4 rfl ?_
          refine G_iadd d_X12_wayOf_112 ?_
          exact G_iret rfl rfl rfl d_X12_wayOf_113 (hK c0 c1 c2 c3)
  ·
    refine G_iload d_X12_wayOf_75 4 rfl ?_
    exact G_iret rfl rfl rfl d_X12_wayOf_77 (hK_2 c0)
theorem b_X12_wayOf_117 {X : cX} {d : Nat} {μ : mM} {K : Option Value → mM → Prop} {r0 : Nat} {l1 : Int32} {l3 : Int32} {l4 : Int32} {i5 : Nat} (h : G X (Rm (d + 2)) mX12_wayOf 35 [(0, .ref r0), (1, .int l1), (3, .int l3), (4, .int l4), (5, .int (nI (i5 + 1)))] [] μ 0 0 K) : G X (Rm (d + 2)) mX12_wayOf 117 [(0, .ref r0), (1, .int l1), (3, .int l3), (4, .int l4), (5, .int (nI i5))] [] μ 0 0 K := by
  refine G_iinc (L' := [(5, .int (nI (i5 + 1))), (0, .ref r0), (1, .int l1), (3, .int l3), (4, .int l4)]) d_X12_wayOf_117 4 rfl (inc1 i5) (by decide) rfl ?_
  refine G_goto (tgt := 35) d_X12_wayOf_120 rfl ?_
  refine G_sub (L' := [(0, .ref r0), (1, .int l1), (3, .int l3), (4, .int l4), (5, .int (nI (i5 + 1)))]) [1, 2, 3, 4, 0] rfl ?_
  exact h
theorem d_X12_ways_0 : decode cX12_ways 0 = .ok (.iload_n 1, 1) := by decide +kernel
theorem d_X12_ways_1 : decode cX12_ways 1 = .ok (.invokestatic 207, 3) := by decide +kernel
theorem d_X12_ways_4 : decode cX12_ways 4 = .ok (.ifCond .ne 5, 3) := by decide +kernel
theorem d_X12_ways_7 : decode cX12_ways 7 = .ok (.iconst (-1), 1) := by decide +kernel
theorem d_X12_ways_8 : decode cX12_ways 8 = .ok (.ireturn, 1) := by decide +kernel
theorem d_X12_ways_9 : decode cX12_ways 9 = .ok (.iconst 0, 1) := by decide +kernel
theorem d_X12_ways_10 : decode cX12_ways 10 = .ok (.istore_n 2, 1) := by decide +kernel
theorem d_X12_ways_11 : decode cX12_ways 11 = .ok (.aload_n 0, 1) := by decide +kernel
theorem d_X12_ways_12 : decode cX12_ways 12 = .ok (.iload_n 1, 1) := by decide +kernel
theorem d_X12_ways_13 : decode cX12_ways 13 = .ok (.iload_n 2, 1) := by decide +kernel
theorem d_X12_ways_14 : decode cX12_ways 14 = .ok (.invokevirtual 281, 3) := by decide +kernel
theorem d_X12_ways_17 : decode cX12_ways 17 = .ok (.bipush (-4), 2) := by decide +kernel
theorem d_X12_ways_19 : decode cX12_ways 19 = .ok (.if_icmp .eq 9, 3) := by decide +kernel
theorem d_X12_ways_22 : decode cX12_ways 22 = .ok (.iinc 2 1, 3) := by decide +kernel
theorem d_X12_ways_25 : decode cX12_ways 25 = .ok (.goto (-14), 3) := by decide +kernel
theorem d_X12_ways_28 : decode cX12_ways 28 = .ok (.iload_n 2, 1) := by decide +kernel
theorem d_X12_ways_29 : decode cX12_ways 29 = .ok (.ireturn, 1) := by decide +kernel
theorem b_X12_ways_0 {X : cX} {d : Nat} {μ : mM} {K : Option Value → mM → Prop} {r0 : Nat} {l1 : Int32} (hs : e_X12_in μ l1.toInt64 0 2 = 0 ∨ e_X12_in μ l1.toInt64 0 2 = 1) (h : ¬ (e_X12_isVariable μ l1) = 0 → G X (Rm (d + 3)) mX12_ways 11 [(0, .ref r0), (1, .int l1), (2, .int (nI 0))] [] μ 0 0 K) (hK : (e_X12_isVariable μ l1) = 0 → K (some (.int (-1))) μ) : G X (Rm (d + 3)) mX12_ways 0 [(0, .ref r0), (1, .int l1)] [] μ 0 0 K := by
  refine G_iload_n d_X12_ways_0 rfl 1 rfl ?_
  refine G_callS (M' := mX12_isVariable) (R' := (Rm (d + 2))) (S := []) [.int l1] ok_X12_isVariable ml_X12_207 pn_X12_isVariable (ru_Rm (by decide)) (Nat.le_of_ble_eq_true rfl) d_X12_ways_1 (s_X12_isVariable (μ := μ)  hs ?_)
  show G X (Rm (d + 3)) mX12_ways 4 [(0, .ref r0), (1, .int l1)] [.int (e_X12_isVariable μ l1)] μ 0 0 K
  refine G_if_ne (tgt := 9) d_X12_ways_4 rfl (fun c0 => ?_) (fun c0 => ?_)
  ·
    refine G_iconst d_X12_ways_9 ic_0 ?_
    refine G_istore_n (L' := [(2, .int (nI 0)), (0, .ref r0), (1, .int l1)]) d_X12_ways_10 rfl (by decide) rfl ?_
    refine G_sub (L' := [(0, .ref r0), (1, .int l1), (2, .int (nI 0))]) [1, 2, 0] rfl ?_
    exact (h c0)
  ·
    refine G_iconst d_X12_ways_7 ic_m1 ?_
    exact G_iret rfl rfl rfl d_X12_ways_8 (hK c0)
theorem b_X12_ways_11 {X : cX} {d : Nat} {μ : mM} {K : Option Value → mM → Prop} {r0 : Nat} {l1 : Int32} {l2 : Int32} (hw12_r0 : WF12 μ r0) (hc_wayOf : Ct X (Rm (d + 2)) mX12_wayOf [.ref r0, .int l1, .int l2] μ (fun r μ2 => G X (Rm (d + 3)) mX12_ways 17 [(0, .ref r0), (1, .int l1), (2, .int l2)] (r.toList ++ []) μ2 0 0 K)) : G X (Rm (d + 3)) mX12_ways 11 [(0, .ref r0), (1, .int l1), (2, .int l2)] [] μ 0 0 K := by
  refine G_aload_n d_X12_ways_11 rfl 0 rfl ?_
  refine G_iload_n d_X12_ways_12 rfl 1 rfl ?_
  refine G_iload_n d_X12_ways_13 rfl 2 rfl ?_
  refine G_callV (M' := mX12_wayOf) (R' := (Rm (d + 2))) (S := []) [.int l1, .int l2] 12 (w12_kd hw12_r0) cok12 rfl ok_X12_wayOf ml_X12_281 pn_X12_wayOf (ru_Rm (by decide)) (Nat.le_of_ble_eq_true rfl) d_X12_ways_14 ?_
  exact hc_wayOf
theorem b_X12_ways_17 {X : cX} {d : Nat} {μ : mM} {K : Option Value → mM → Prop} {r0 : Nat} {l1 : Int32} {i2 : Nat} {v0 : Int32} (hK : v0 = ((-4) : Int32) → K (some (.int (nI i2))) μ) (h : ¬ v0 = ((-4) : Int32) → G X (Rm (d + 3)) mX12_ways 11 [(0, .ref r0), (1, .int l1), (2, .int (nI (i2 + 1)))] [] μ 0 0 K) : G X (Rm (d + 3)) mX12_ways 17 [(0, .ref r0), (1, .int l1), (2, .int (nI i2))] [.int v0] μ 0 0 K := by
  refine G_bipush d_X12_ways_17 bp_m4 ?_
  refine G_icmp_eq (tgt := 28) d_X12_ways_19 rfl (fun c0 => ?_) (fun c0 => ?_)
  ·
    refine G_iload_n d_X12_ways_28 rfl 2 rfl ?_
    exact G_iret rfl rfl rfl d_X12_ways_29 (hK c0)
  ·
    refine G_iinc (L' := [(2, .int (nI (i2 + 1))), (0, .ref r0), (1, .int l1)]) d_X12_ways_22 2 rfl (inc1 i2) (by decide) rfl ?_
    refine G_goto (tgt := 11) d_X12_ways_25 rfl ?_
    refine G_sub (L' := [(0, .ref r0), (1, .int l1), (2, .int (nI (i2 + 1)))]) [1, 2, 0] rfl ?_
    exact (h c0)
theorem d_X12_twins_0 : decode cX12_twins 0 = .ok (.aload_n 0, 1) := by decide +kernel
theorem d_X12_twins_1 : decode cX12_twins 1 = .ok (.invokevirtual 169, 3) := by decide +kernel
theorem d_X12_twins_4 : decode cX12_twins 4 = .ok (.istore_n 3, 1) := by decide +kernel
theorem d_X12_twins_5 : decode cX12_twins 5 = .ok (.aload_n 0, 1) := by decide +kernel
theorem d_X12_twins_6 : decode cX12_twins 6 = .ok (.iconst 1, 1) := by decide +kernel
theorem d_X12_twins_7 : decode cX12_twins 7 = .ok (.invokevirtual 238, 3) := by decide +kernel
theorem d_X12_twins_10 : decode cX12_twins 10 = .ok (.iconst 0, 1) := by decide +kernel
theorem d_X12_twins_11 : decode cX12_twins 11 = .ok (.istore 4, 2) := by decide +kernel
theorem d_X12_twins_13 : decode cX12_twins 13 = .ok (.iload 4, 2) := by decide +kernel
theorem d_X12_twins_15 : decode cX12_twins 15 = .ok (.iconst 3, 1) := by decide +kernel
theorem d_X12_twins_16 : decode cX12_twins 16 = .ok (.if_icmp .ge 41, 3) := by decide +kernel
theorem d_X12_twins_19 : decode cX12_twins 19 = .ok (.aload_n 0, 1) := by decide +kernel
theorem d_X12_twins_20 : decode cX12_twins 20 = .ok (.getfield 7, 3) := by decide +kernel
theorem d_X12_twins_23 : decode cX12_twins 23 = .ok (.bipush 6, 2) := by decide +kernel
theorem d_X12_twins_25 : decode cX12_twins 25 = .ok (.bipush 6, 2) := by decide +kernel
theorem d_X12_twins_27 : decode cX12_twins 27 = .ok (.iload 4, 2) := by decide +kernel
theorem d_X12_twins_29 : decode cX12_twins 29 = .ok (.imul, 1) := by decide +kernel
theorem d_X12_twins_30 : decode cX12_twins 30 = .ok (.iadd, 1) := by decide +kernel
theorem d_X12_twins_31 : decode cX12_twins 31 = .ok (.iload_n 3, 1) := by decide +kernel
theorem d_X12_twins_32 : decode cX12_twins 32 = .ok (.iadd, 1) := by decide +kernel
theorem d_X12_twins_33 : decode cX12_twins 33 = .ok (.iload 4, 2) := by decide +kernel
theorem d_X12_twins_35 : decode cX12_twins 35 = .ok (.iload_n 1, 1) := by decide +kernel
theorem d_X12_twins_36 : decode cX12_twins 36 = .ok (.if_icmp .ne 7, 3) := by decide +kernel
theorem d_X12_twins_39 : decode cX12_twins 39 = .ok (.iconst 0, 1) := by decide +kernel
theorem d_X12_twins_40 : decode cX12_twins 40 = .ok (.goto 10, 3) := by decide +kernel
theorem d_X12_twins_43 : decode cX12_twins 43 = .ok (.aload_n 0, 1) := by decide +kernel
theorem d_X12_twins_44 : decode cX12_twins 44 = .ok (.iload 4, 2) := by decide +kernel
theorem d_X12_twins_46 : decode cX12_twins 46 = .ok (.iload_n 2, 1) := by decide +kernel
theorem d_X12_twins_47 : decode cX12_twins 47 = .ok (.invokevirtual 178, 3) := by decide +kernel
theorem d_X12_twins_50 : decode cX12_twins 50 = .ok (.iastore, 1) := by decide +kernel
theorem d_X12_twins_51 : decode cX12_twins 51 = .ok (.iinc 4 1, 3) := by decide +kernel
theorem d_X12_twins_54 : decode cX12_twins 54 = .ok (.goto (-41), 3) := by decide +kernel
theorem d_X12_twins_57 : decode cX12_twins 57 = .ok (.iconst 0, 1) := by decide +kernel
theorem d_X12_twins_58 : decode cX12_twins 58 = .ok (.istore 4, 2) := by decide +kernel
theorem d_X12_twins_60 : decode cX12_twins 60 = .ok (.iload 4, 2) := by decide +kernel
theorem d_X12_twins_62 : decode cX12_twins 62 = .ok (.iload_n 3, 1) := by decide +kernel
theorem d_X12_twins_63 : decode cX12_twins 63 = .ok (.if_icmp .ge 53, 3) := by decide +kernel
theorem d_X12_twins_66 : decode cX12_twins 66 = .ok (.aload_n 0, 1) := by decide +kernel
theorem d_X12_twins_67 : decode cX12_twins 67 = .ok (.getfield 7, 3) := by decide +kernel
theorem d_X12_twins_70 : decode cX12_twins 70 = .ok (.bipush 24, 2) := by decide +kernel
theorem d_X12_twins_72 : decode cX12_twins 72 = .ok (.bipush 6, 2) := by decide +kernel
theorem d_X12_twins_74 : decode cX12_twins 74 = .ok (.iload_n 3, 1) := by decide +kernel
theorem d_X12_twins_75 : decode cX12_twins 75 = .ok (.imul, 1) := by decide +kernel
theorem d_X12_twins_76 : decode cX12_twins 76 = .ok (.iadd, 1) := by decide +kernel
theorem d_X12_twins_77 : decode cX12_twins 77 = .ok (.iload 4, 2) := by decide +kernel
theorem d_X12_twins_79 : decode cX12_twins 79 = .ok (.iadd, 1) := by decide +kernel
theorem d_X12_twins_80 : decode cX12_twins 80 = .ok (.aload_n 0, 1) := by decide +kernel
theorem d_X12_twins_81 : decode cX12_twins 81 = .ok (.iload_n 2, 1) := by decide +kernel
theorem d_X12_twins_82 : decode cX12_twins 82 = .ok (.iload 4, 2) := by decide +kernel
theorem d_X12_twins_84 : decode cX12_twins 84 = .ok (.invokevirtual 204, 3) := by decide +kernel
theorem d_X12_twins_87 : decode cX12_twins 87 = .ok (.iastore, 1) := by decide +kernel
theorem d_X12_twins_88 : decode cX12_twins 88 = .ok (.aload_n 0, 1) := by decide +kernel
theorem d_X12_twins_89 : decode cX12_twins 89 = .ok (.getfield 7, 3) := by decide +kernel
theorem d_X12_twins_92 : decode cX12_twins 92 = .ok (.bipush 24, 2) := by decide +kernel
theorem d_X12_twins_94 : decode cX12_twins 94 = .ok (.bipush 6, 2) := by decide +kernel
theorem d_X12_twins_96 : decode cX12_twins 96 = .ok (.iload 4, 2) := by decide +kernel
theorem d_X12_twins_98 : decode cX12_twins 98 = .ok (.imul, 1) := by decide +kernel
theorem d_X12_twins_99 : decode cX12_twins 99 = .ok (.iadd, 1) := by decide +kernel
theorem d_X12_twins_100 : decode cX12_twins 100 = .ok (.iload_n 3, 1) := by decide +kernel
theorem d_X12_twins_101 : decode cX12_twins 101 = .ok (.iadd, 1) := by decide +kernel
theorem d_X12_twins_102 : decode cX12_twins 102 = .ok (.aload_n 0, 1) := by decide +kernel
theorem d_X12_twins_103 : decode cX12_twins 103 = .ok (.iload 4, 2) := by decide +kernel
theorem d_X12_twins_105 : decode cX12_twins 105 = .ok (.iload_n 2, 1) := by decide +kernel
theorem d_X12_twins_106 : decode cX12_twins 106 = .ok (.invokevirtual 204, 3) := by decide +kernel
theorem d_X12_twins_109 : decode cX12_twins 109 = .ok (.iastore, 1) := by decide +kernel
theorem d_X12_twins_110 : decode cX12_twins 110 = .ok (.iinc 4 1, 3) := by decide +kernel
theorem d_X12_twins_113 : decode cX12_twins 113 = .ok (.goto (-53), 3) := by decide +kernel
theorem d_X12_twins_116 : decode cX12_twins 116 = .ok (.aload_n 0, 1) := by decide +kernel
theorem d_X12_twins_117 : decode cX12_twins 117 = .ok (.getfield 7, 3) := by decide +kernel
theorem d_X12_twins_120 : decode cX12_twins 120 = .ok (.bipush 24, 2) := by decide +kernel
theorem d_X12_twins_122 : decode cX12_twins 122 = .ok (.bipush 6, 2) := by decide +kernel
theorem d_X12_twins_124 : decode cX12_twins 124 = .ok (.iload_n 3, 1) := by decide +kernel
theorem d_X12_twins_125 : decode cX12_twins 125 = .ok (.imul, 1) := by decide +kernel
theorem d_X12_twins_126 : decode cX12_twins 126 = .ok (.iadd, 1) := by decide +kernel
theorem d_X12_twins_127 : decode cX12_twins 127 = .ok (.iload_n 3, 1) := by decide +kernel
theorem d_X12_twins_128 : decode cX12_twins 128 = .ok (.iadd, 1) := by decide +kernel
theorem d_X12_twins_129 : decode cX12_twins 129 = .ok (.aload_n 0, 1) := by decide +kernel
theorem d_X12_twins_130 : decode cX12_twins 130 = .ok (.iload_n 2, 1) := by decide +kernel
theorem d_X12_twins_131 : decode cX12_twins 131 = .ok (.iload_n 2, 1) := by decide +kernel
theorem d_X12_twins_132 : decode cX12_twins 132 = .ok (.invokevirtual 204, 3) := by decide +kernel
theorem d_X12_twins_135 : decode cX12_twins 135 = .ok (.iastore, 1) := by decide +kernel
theorem d_X12_twins_136 : decode cX12_twins 136 = .ok (.return_, 1) := by decide +kernel
theorem b_X12_twins_0 {X : cX} {d : Nat} {μ : mM} {K : Option Value → mM → Prop} {r0 : Nat} {l1 : Int32} {l2 : Int32} (hw12_r0 : WF12 μ r0) (hc_comes : Ct X (Rm (d + 1)) mX12_comes [.ref r0, .int 1] μ (fun r μ2 => G X (Rm (d + 2)) mX12_twins 10 [(0, .ref r0), (1, .int l1), (2, .int l2), (3, .int (e_X12_nodes μ r0))] (r.toList ++ []) μ2 0 0 K)) : G X (Rm (d + 2)) mX12_twins 0 [(0, .ref r0), (1, .int l1), (2, .int l2)] [] μ 0 0 K := by
  refine G_aload_n d_X12_twins_0 rfl 0 rfl ?_
  refine G_callV (M' := mX12_nodes) (R' := (Rm (d + 1))) (S := []) [] 12 (w12_kd hw12_r0) cok12 rfl ok_X12_nodes ml_X12_169 pn_X12_nodes (ru_Rm (by decide)) (Nat.le_of_ble_eq_true rfl) d_X12_twins_1 (s_X12_nodes (μ := μ)  hw12_r0 ?_)
  show G X (Rm (d + 2)) mX12_twins 4 [(0, .ref r0), (1, .int l1), (2, .int l2)] [.int (e_X12_nodes μ r0)] μ 0 0 K
  refine G_istore_n (L' := [(3, .int (e_X12_nodes μ r0)), (0, .ref r0), (1, .int l1), (2, .int l2)]) d_X12_twins_4 rfl (by decide) rfl ?_
  refine G_aload_n d_X12_twins_5 rfl 1 rfl ?_
  refine G_iconst d_X12_twins_6 ic_1 ?_
  refine G_sub (L' := [(0, .ref r0), (1, .int l1), (2, .int l2), (3, .int (e_X12_nodes μ r0))]) [1, 2, 3, 0] rfl ?_
  refine G_callV (M' := mX12_comes) (R' := (Rm (d + 1))) (S := []) [.int 1] 12 (w12_kd hw12_r0) cok12 rfl ok_X12_comes ml_X12_238 pn_X12_comes (ru_Rm (by decide)) (Nat.le_of_ble_eq_true rfl) d_X12_twins_7 ?_
  exact hc_comes
theorem b_X12_twins_10 {X : cX} {d : Nat} {μ : mM} {K : Option Value → mM → Prop} {r0 : Nat} {l1 : Int32} {l2 : Int32} {l3 : Int32} (h : G X (Rm (d + 2)) mX12_twins 13 [(0, .ref r0), (1, .int l1), (2, .int l2), (3, .int l3), (4, .int (nI 0))] [] μ 0 0 K) : G X (Rm (d + 2)) mX12_twins 10 [(0, .ref r0), (1, .int l1), (2, .int l2), (3, .int l3)] [] μ 0 0 K := by
  refine G_iconst d_X12_twins_10 ic_0 ?_
  refine G_istore (L' := [(4, .int (nI 0)), (0, .ref r0), (1, .int l1), (2, .int l2), (3, .int l3)]) d_X12_twins_11 (by decide) rfl ?_
  refine G_sub (L' := [(0, .ref r0), (1, .int l1), (2, .int l2), (3, .int l3), (4, .int (nI 0))]) [1, 2, 3, 4, 0] rfl ?_
  exact h
theorem b_X12_twins_13 {X : cX} {d : Nat} {μ : mM} {K : Option Value → mM → Prop} {r0 : Nat} {l1 : Int32} {i2 : Nat} {l3 : Int32} {i4 : Nat} (h : (3 : Int32) ≤ (nI i4) → G X (Rm (d + 2)) mX12_twins 60 [(0, .ref r0), (2, .int (nI i2)), (3, .int l3), (4, .int (nI 0))] [] μ 0 0 K) (hw12_r0 : WF12 μ r0) (hs : ¬ (3 : Int32) ≤ (nI i4) → ¬ (nI i4) = l1 → ((6 + (6 * i4)) + i2) < 366) (h_2 : ¬ (3 : Int32) ≤ (nI i4) → ¬ (nI i4) = l1 → G X (Rm (d + 2)) mX12_twins 50 [(0, .ref r0), (1, .int l1), (2, .int (nI i2)), (3, .int l3), (4, .int (nI i4))] [.int (e_X12_atOf μ r0 i4 i2), .int (((6 : Int32) + ((6 : Int32) * (nI i4))) + l3), .ref (r0 + 1)] μ 0 0 K) (h_3 : ¬ (3 : Int32) ≤ (nI i4) → (nI i4) = l1 → G X (Rm (d + 2)) mX12_twins 50 [(0, .ref r0), (1, .int l1), (2, .int (nI i2)), (3, .int l3), (4, .int (nI i4))] [.int 0, .int (((6 : Int32) + ((6 : Int32) * (nI i4))) + l3), .ref (r0 + 1)] μ 0 0 K) : G X (Rm (d + 2)) mX12_twins 13 [(0, .ref r0), (1, .int l1), (2, .int (nI i2)), (3, .int l3), (4, .int (nI i4))] [] μ 0 0 K := by
  refine G_iload d_X12_twins_13 4 rfl ?_
  refine G_iconst d_X12_twins_15 ic_3 ?_
  refine G_icmp_ge (tgt := 57) d_X12_twins_16 rfl (fun c0 => ?_) (fun c0 => ?_)
  ·
    refine G_iconst d_X12_twins_57 ic_0 ?_
    refine G_istore (L' := [(4, .int (nI 0)), (0, .ref r0), (1, .int l1), (2, .int (nI i2)), (3, .int l3)]) d_X12_twins_58 (by decide) rfl ?_
    refine G_sub (L' := [(0, .ref r0), (2, .int (nI i2)), (3, .int l3), (4, .int (nI 0))]) [1, 3, 4, 0] rfl ?_
    exact (h c0)
  ·
    refine G_aload_n d_X12_twins_19 rfl 0 rfl ?_
    refine G_getR (r := r0 + 1) 12 0 (w12_kd hw12_r0) (w12_f0 hw12_r0) cok12 (by decide) rfl fl_X12_7 d_X12_twins_20 ?_
    refine G_bipush d_X12_twins_23 bp_6 ?_
    refine G_bipush d_X12_twins_25 bp_6 ?_
    refine G_iload d_X12_twins_27 4 rfl ?_
    refine G_imul d_X12_twins_29 ?_
    refine G_iadd d_X12_twins_30 ?_
    refine G_iload_n d_X12_twins_31 rfl 3 rfl ?_
    refine G_iadd d_X12_twins_32 ?_
    refine G_iload d_X12_twins_33 4 rfl ?_
    refine G_iload_n d_X12_twins_35 rfl 1 rfl ?_
    refine G_icmp_ne (tgt := 43) d_X12_twins_36 rfl (fun c1 => ?_) (fun c1 => ?_)
    ·
      refine G_aload_n d_X12_twins_43 rfl 0 rfl ?_
      refine G_iload d_X12_twins_44 4 rfl ?_
      refine G_iload_n d_X12_twins_46 rfl 2 rfl ?_
      refine G_callV (M' := mX12_atOf) (R' := (Rm (d + 1))) (S := [.int (((6 : Int32) + ((6 : Int32) * (nI i4))) + l3), .ref (r0 + 1)]) [.int (nI i4), .int (nI i2)] 12 (w12_kd hw12_r0) cok12 rfl ok_X12_atOf ml_X12_178 pn_X12_atOf (ru_Rm (by decide)) (Nat.le_of_ble_eq_true rfl) d_X12_twins_47 (s_X12_atOf (μ := μ) (i1 := i4) (i2 := i2) hw12_r0 (hs c0 c1) ?_)
      show G X (Rm (d + 2)) mX12_twins 50 [(0, .ref r0), (1, .int l1), (2, .int (nI i2)), (3, .int l3), (4, .int (nI i4))] [.int (e_X12_atOf μ r0 i4 i2), .int (((6 : Int32) + ((6 : Int32) * (nI i4))) + l3), .ref (r0 + 1)] μ 0 0 K
      exact (h_2 c0 c1)
    ·
      refine G_iconst d_X12_twins_39 ic_0 ?_
      refine G_goto (tgt := 50) d_X12_twins_40 rfl ?_
      exact (h_3 c0 c1)
theorem b_X12_twins_50 {X : cX} {d : Nat} {μ : mM} {K : Option Value → mM → Prop} {r0 : Nat} {l1 : Int32} {l2 : Int32} {l3 : Int32} {i4 : Nat} {q0 : Nat} {v1 : Int32} {v2 : Int32} {n0 : Nat} {j0 : Nat} (hk_q0 : kd μ q0 = (1, n0)) (hi_j0 : v1 = nI j0) (hb : j0 < n0) (h : G X (Rm (d + 2)) mX12_twins 13 [(0, .ref r0), (1, .int l1), (2, .int l2), (3, .int l3), (4, .int (nI (i4 + 1)))] [] (wi μ q0 j0 v2) 0 0 K) : G X (Rm (d + 2)) mX12_twins 50 [(0, .ref r0), (1, .int l1), (2, .int l2), (3, .int l3), (4, .int (nI i4))] [.int v2, .int v1, .ref q0] μ 0 0 K := by
  refine G_iast j0 hk_q0 hi_j0 hb d_X12_twins_50 ?_
  refine G_iinc (L' := [(4, .int (nI (i4 + 1))), (0, .ref r0), (1, .int l1), (2, .int l2), (3, .int l3)]) d_X12_twins_51 4 rfl (inc1 i4) (by decide) rfl ?_
  refine G_goto (tgt := 13) d_X12_twins_54 rfl ?_
  refine G_sub (L' := [(0, .ref r0), (1, .int l1), (2, .int l2), (3, .int l3), (4, .int (nI (i4 + 1)))]) [1, 2, 3, 4, 0] rfl ?_
  exact h
theorem b_X12_twins_60 {X : cX} {d : Nat} {μ : mM} {K : Option Value → mM → Prop} {r0 : Nat} {i2 : Nat} {l3 : Int32} {i4 : Nat} {j0 : Nat} {j1 : Nat} {j2 : Nat} (hw12_r0 : WF12 μ r0) (hs : l3 ≤ (nI i4) → ((24 + (6 * i2)) + i2) < 366) (hi_j0 : l3 ≤ (nI i4) → ((24 : Int32) + ((6 : Int32) * l3)) + l3 = nI j0) (hb : l3 ≤ (nI i4) → j0 < 366) (hK : l3 ≤ (nI i4) → K none (wi μ (r0 + 1) j0 (e_X12_nextOf μ r0 i2 i2))) (hs_2 : ¬ l3 ≤ (nI i4) → ((24 + (6 * i2)) + i4) < 366) (hi_j1 : ¬ l3 ≤ (nI i4) → ((24 : Int32) + ((6 : Int32) * l3)) + (nI i4) = nI j1) (hb_2 : ¬ l3 ≤ (nI i4) → j1 < 366) (hs_3 : ¬ l3 ≤ (nI i4) → ((24 + (6 * i4)) + i2) < 366) (hi_j2 : ¬ l3 ≤ (nI i4) → ((24 : Int32) + ((6 : Int32) * (nI i4))) + l3 = nI j2) (hb_3 : ¬ l3 ≤ (nI i4) → j2 < 366) (h : ¬ l3 ≤ (nI i4) → G X (Rm (d + 2)) mX12_twins 60 [(0, .ref r0), (2, .int (nI i2)), (3, .int l3), (4, .int (nI (i4 + 1)))] [] (wi (wi μ (r0 + 1) j1 (e_X12_nextOf μ r0 i2 i4)) (r0 + 1) j2 (e_X12_nextOf (wi μ (r0 + 1) j1 (e_X12_nextOf μ r0 i2 i4)) r0 i4 i2)) 0 0 K) : G X (Rm (d + 2)) mX12_twins 60 [(0, .ref r0), (2, .int (nI i2)), (3, .int l3), (4, .int (nI i4))] [] μ 0 0 K := by
  refine G_iload d_X12_twins_60 3 rfl ?_
  refine G_iload_n d_X12_twins_62 rfl 2 rfl ?_
  refine G_icmp_ge (tgt := 116) d_X12_twins_63 rfl (fun c0 => ?_) (fun c0 => ?_)
  ·
    refine G_aload_n d_X12_twins_116 rfl 0 rfl ?_
    refine G_getR (r := r0 + 1) 12 0 (w12_kd hw12_r0) (w12_f0 hw12_r0) cok12 (by decide) rfl fl_X12_7 d_X12_twins_117 ?_
    refine G_bipush d_X12_twins_120 bp_24 ?_
    refine G_bipush d_X12_twins_122 bp_6 ?_
    refine G_iload_n d_X12_twins_124 rfl 2 rfl ?_
    refine G_imul d_X12_twins_125 ?_
    refine G_iadd d_X12_twins_126 ?_
    refine G_iload_n d_X12_twins_127 rfl 2 rfl ?_
    refine G_iadd d_X12_twins_128 ?_
    refine G_aload_n d_X12_twins_129 rfl 0 rfl ?_
    refine G_iload_n d_X12_twins_130 rfl 1 rfl ?_
    refine G_iload_n d_X12_twins_131 rfl 1 rfl ?_
    refine G_callV (M' := mX12_nextOf) (R' := (Rm (d + 1))) (S := [.int (((24 : Int32) + ((6 : Int32) * l3)) + l3), .ref (r0 + 1)]) [.int (nI i2), .int (nI i2)] 12 (w12_kd hw12_r0) cok12 rfl ok_X12_nextOf ml_X12_204 pn_X12_nextOf (ru_Rm (by decide)) (Nat.le_of_ble_eq_true rfl) d_X12_twins_132 (s_X12_nextOf (μ := μ) (i1 := i2) (i2 := i2) hw12_r0 (hs c0) ?_)
    show G X (Rm (d + 2)) mX12_twins 135 [(0, .ref r0), (2, .int (nI i2)), (3, .int l3), (4, .int (nI i4))] [.int (e_X12_nextOf μ r0 i2 i2), .int (((24 : Int32) + ((6 : Int32) * l3)) + l3), .ref (r0 + 1)] μ 0 0 K
    refine G_iast j0 (w12_k0 hw12_r0) (hi_j0 c0) (hb c0) d_X12_twins_135 ?_
    exact G_vret rfl rfl rfl d_X12_twins_136 (hK c0)
  ·
    refine G_aload_n d_X12_twins_66 rfl 0 rfl ?_
    refine G_getR (r := r0 + 1) 12 0 (w12_kd hw12_r0) (w12_f0 hw12_r0) cok12 (by decide) rfl fl_X12_7 d_X12_twins_67 ?_
    refine G_bipush d_X12_twins_70 bp_24 ?_
    refine G_bipush d_X12_twins_72 bp_6 ?_
    refine G_iload_n d_X12_twins_74 rfl 2 rfl ?_
    refine G_imul d_X12_twins_75 ?_
    refine G_iadd d_X12_twins_76 ?_
    refine G_iload d_X12_twins_77 3 rfl ?_
    refine G_iadd d_X12_twins_79 ?_
    refine G_aload_n d_X12_twins_80 rfl 0 rfl ?_
    refine G_iload_n d_X12_twins_81 rfl 1 rfl ?_
    refine G_iload d_X12_twins_82 3 rfl ?_
    refine G_callV (M' := mX12_nextOf) (R' := (Rm (d + 1))) (S := [.int (((24 : Int32) + ((6 : Int32) * l3)) + (nI i4)), .ref (r0 + 1)]) [.int (nI i2), .int (nI i4)] 12 (w12_kd hw12_r0) cok12 rfl ok_X12_nextOf ml_X12_204 pn_X12_nextOf (ru_Rm (by decide)) (Nat.le_of_ble_eq_true rfl) d_X12_twins_84 (s_X12_nextOf (μ := μ) (i1 := i2) (i2 := i4) hw12_r0 (hs_2 c0) ?_)
    show G X (Rm (d + 2)) mX12_twins 87 [(0, .ref r0), (2, .int (nI i2)), (3, .int l3), (4, .int (nI i4))] [.int (e_X12_nextOf μ r0 i2 i4), .int (((24 : Int32) + ((6 : Int32) * l3)) + (nI i4)), .ref (r0 + 1)] μ 0 0 K
    refine G_iast j1 (w12_k0 hw12_r0) (hi_j1 c0) (hb_2 c0) d_X12_twins_87 ?_
    refine G_aload_n d_X12_twins_88 rfl 0 rfl ?_
    refine G_getR (r := r0 + 1) 12 0 (w12_kd hw12_r0) (w12_f0 hw12_r0) cok12 (by decide) rfl fl_X12_7 d_X12_twins_89 ?_
    refine G_bipush d_X12_twins_92 bp_24 ?_
    refine G_bipush d_X12_twins_94 bp_6 ?_
    refine G_iload d_X12_twins_96 3 rfl ?_
    refine G_imul d_X12_twins_98 ?_
    refine G_iadd d_X12_twins_99 ?_
    refine G_iload_n d_X12_twins_100 rfl 2 rfl ?_
    refine G_iadd d_X12_twins_101 ?_
    refine G_aload_n d_X12_twins_102 rfl 0 rfl ?_
    refine G_iload d_X12_twins_103 3 rfl ?_
    refine G_iload_n d_X12_twins_105 rfl 1 rfl ?_
    refine G_callV (M' := mX12_nextOf) (R' := (Rm (d + 1))) (S := [.int (((24 : Int32) + ((6 : Int32) * (nI i4))) + l3), .ref (r0 + 1)]) [.int (nI i4), .int (nI i2)] 12 (w12_kd hw12_r0) cok12 rfl ok_X12_nextOf ml_X12_204 pn_X12_nextOf (ru_Rm (by decide)) (Nat.le_of_ble_eq_true rfl) d_X12_twins_106 (s_X12_nextOf (μ := wi μ (r0 + 1) j1 (e_X12_nextOf μ r0 i2 i4)) (i1 := i4) (i2 := i2) hw12_r0 (hs_3 c0) ?_)
    show G X (Rm (d + 2)) mX12_twins 109 [(0, .ref r0), (2, .int (nI i2)), (3, .int l3), (4, .int (nI i4))] [.int (e_X12_nextOf (wi μ (r0 + 1) j1 (e_X12_nextOf μ r0 i2 i4)) r0 i4 i2), .int (((24 : Int32) + ((6 : Int32) * (nI i4))) + l3), .ref (r0 + 1)] (wi μ (r0 + 1) j1 (e_X12_nextOf μ r0 i2 i4)) 0 0 K
    refine G_iast j2 (w12_k0 hw12_r0) (hi_j2 c0) (hb_3 c0) d_X12_twins_109 ?_
    refine G_iinc (L' := [(4, .int (nI (i4 + 1))), (0, .ref r0), (2, .int (nI i2)), (3, .int l3)]) d_X12_twins_110 3 rfl (inc1 i4) (by decide) rfl ?_
    refine G_goto (tgt := 60) d_X12_twins_113 rfl ?_
    refine G_sub (L' := [(0, .ref r0), (2, .int (nI i2)), (3, .int l3), (4, .int (nI (i4 + 1)))]) [1, 2, 3, 0] rfl ?_
    exact (h c0)
theorem d_X12_split_0 : decode cX12_split 0 = .ok (.iload_n 1, 1) := by decide +kernel
theorem d_X12_split_1 : decode cX12_split 1 = .ok (.invokestatic 207, 3) := by decide +kernel
theorem d_X12_split_4 : decode cX12_split 4 = .ok (.ifCond .eq 7, 3) := by decide +kernel
theorem d_X12_split_7 : decode cX12_split 7 = .ok (.iload_n 2, 1) := by decide +kernel
theorem d_X12_split_8 : decode cX12_split 8 = .ok (.ifCond .ge 5, 3) := by decide +kernel
theorem d_X12_split_11 : decode cX12_split 11 = .ok (.iconst (-1), 1) := by decide +kernel
theorem d_X12_split_12 : decode cX12_split 12 = .ok (.ireturn, 1) := by decide +kernel
theorem d_X12_split_13 : decode cX12_split 13 = .ok (.aload_n 0, 1) := by decide +kernel
theorem d_X12_split_14 : decode cX12_split 14 = .ok (.iload_n 1, 1) := by decide +kernel
theorem d_X12_split_15 : decode cX12_split 15 = .ok (.iload_n 2, 1) := by decide +kernel
theorem d_X12_split_16 : decode cX12_split 16 = .ok (.invokevirtual 281, 3) := by decide +kernel
theorem d_X12_split_19 : decode cX12_split 19 = .ok (.istore_n 3, 1) := by decide +kernel
theorem d_X12_split_20 : decode cX12_split 20 = .ok (.iload_n 3, 1) := by decide +kernel
theorem d_X12_split_21 : decode cX12_split 21 = .ok (.bipush (-4), 2) := by decide +kernel
theorem d_X12_split_23 : decode cX12_split 23 = .ok (.if_icmp .ne 5, 3) := by decide +kernel
theorem d_X12_split_26 : decode cX12_split 26 = .ok (.iconst (-1), 1) := by decide +kernel
theorem d_X12_split_27 : decode cX12_split 27 = .ok (.ireturn, 1) := by decide +kernel
theorem d_X12_split_28 : decode cX12_split 28 = .ok (.iload_n 3, 1) := by decide +kernel
theorem d_X12_split_29 : decode cX12_split 29 = .ok (.iconst 5, 1) := by decide +kernel
theorem d_X12_split_30 : decode cX12_split 30 = .ok (.if_icmp .le 15, 3) := by decide +kernel
theorem d_X12_split_33 : decode cX12_split 33 = .ok (.aload_n 0, 1) := by decide +kernel
theorem d_X12_split_34 : decode cX12_split 34 = .ok (.invokevirtual 169, 3) := by decide +kernel
theorem d_X12_split_37 : decode cX12_split 37 = .ok (.bipush 6, 2) := by decide +kernel
theorem d_X12_split_39 : decode cX12_split 39 = .ok (.if_icmp .ne 6, 3) := by decide +kernel
theorem d_X12_split_42 : decode cX12_split 42 = .ok (.bipush (-3), 2) := by decide +kernel
theorem d_X12_split_44 : decode cX12_split 44 = .ok (.ireturn, 1) := by decide +kernel
theorem d_X12_split_45 : decode cX12_split 45 = .ok (.iload_n 3, 1) := by decide +kernel
theorem d_X12_split_46 : decode cX12_split 46 = .ok (.iconst 5, 1) := by decide +kernel
theorem d_X12_split_47 : decode cX12_split 47 = .ok (.if_icmp .le 12, 3) := by decide +kernel
theorem d_X12_split_50 : decode cX12_split 50 = .ok (.aload_n 0, 1) := by decide +kernel
theorem d_X12_split_51 : decode cX12_split 51 = .ok (.iload_n 1, 1) := by decide +kernel
theorem d_X12_split_52 : decode cX12_split 52 = .ok (.iload_n 3, 1) := by decide +kernel
theorem d_X12_split_53 : decode cX12_split 53 = .ok (.bipush 6, 2) := by decide +kernel
theorem d_X12_split_55 : decode cX12_split 55 = .ok (.isub, 1) := by decide +kernel
theorem d_X12_split_56 : decode cX12_split 56 = .ok (.invokevirtual 284, 3) := by decide +kernel
theorem d_X12_split_59 : decode cX12_split 59 = .ok (.aload_n 0, 1) := by decide +kernel
theorem d_X12_split_60 : decode cX12_split 60 = .ok (.iload_n 1, 1) := by decide +kernel
theorem d_X12_split_61 : decode cX12_split 61 = .ok (.iload_n 3, 1) := by decide +kernel
theorem d_X12_split_62 : decode cX12_split 62 = .ok (.ifCond .ge 8, 3) := by decide +kernel
theorem d_X12_split_65 : decode cX12_split 65 = .ok (.bipush (-4), 2) := by decide +kernel
theorem d_X12_split_67 : decode cX12_split 67 = .ok (.goto 7, 3) := by decide +kernel
theorem d_X12_split_70 : decode cX12_split 70 = .ok (.iload_n 3, 1) := by decide +kernel
theorem d_X12_split_71 : decode cX12_split 71 = .ok (.bipush 6, 2) := by decide +kernel
theorem d_X12_split_73 : decode cX12_split 73 = .ok (.irem, 1) := by decide +kernel
theorem d_X12_split_74 : decode cX12_split 74 = .ok (.invokevirtual 250, 3) := by decide +kernel
theorem d_X12_split_77 : decode cX12_split 77 = .ok (.iload_n 3, 1) := by decide +kernel
theorem d_X12_split_78 : decode cX12_split 78 = .ok (.ifCond .lt 13, 3) := by decide +kernel
theorem d_X12_split_81 : decode cX12_split 81 = .ok (.aload_n 0, 1) := by decide +kernel
theorem d_X12_split_82 : decode cX12_split 82 = .ok (.getfield 7, 3) := by decide +kernel
theorem d_X12_split_85 : decode cX12_split 85 = .ok (.iload_n 3, 1) := by decide +kernel
theorem d_X12_split_86 : decode cX12_split 86 = .ok (.bipush 6, 2) := by decide +kernel
theorem d_X12_split_88 : decode cX12_split 88 = .ok (.irem, 1) := by decide +kernel
theorem d_X12_split_89 : decode cX12_split 89 = .ok (.iconst 0, 1) := by decide +kernel
theorem d_X12_split_90 : decode cX12_split 90 = .ok (.iastore, 1) := by decide +kernel
theorem d_X12_split_91 : decode cX12_split 91 = .ok (.aload_n 0, 1) := by decide +kernel
theorem d_X12_split_92 : decode cX12_split 92 = .ok (.invokevirtual 169, 3) := by decide +kernel
theorem d_X12_split_95 : decode cX12_split 95 = .ok (.ireturn, 1) := by decide +kernel
theorem b_X12_split_0 {X : cX} {d : Nat} {μ : mM} {K : Option Value → mM → Prop} {r0 : Nat} {l1 : Int32} {l2 : Int32} (hs : e_X12_in μ l1.toInt64 0 2 = 0 ∨ e_X12_in μ l1.toInt64 0 2 = 1) (hK : (e_X12_isVariable μ l1) = 0 → K (some (.int (-1))) μ) (hw12_r0 : WF12 μ r0) (hc_wayOf : ¬ (e_X12_isVariable μ l1) = 0 → 0 ≤ l2 → Ct X (Rm (d + 2)) mX12_wayOf [.ref r0, .int l1, .int l2] μ (fun r μ2 => G X (Rm (d + 3)) mX12_split 19 [(0, .ref r0), (1, .int l1)] (r.toList ++ []) μ2 0 0 K)) (hK_2 : ¬ (e_X12_isVariable μ l1) = 0 → ¬ 0 ≤ l2 → K (some (.int (-1))) μ) : G X (Rm (d + 3)) mX12_split 0 [(0, .ref r0), (1, .int l1), (2, .int l2)] [] μ 0 0 K := by
  refine G_iload_n d_X12_split_0 rfl 1 rfl ?_
  refine G_callS (M' := mX12_isVariable) (R' := (Rm (d + 2))) (S := []) [.int l1] ok_X12_isVariable ml_X12_207 pn_X12_isVariable (ru_Rm (by decide)) (Nat.le_of_ble_eq_true rfl) d_X12_split_1 (s_X12_isVariable (μ := μ)  hs ?_)
  show G X (Rm (d + 3)) mX12_split 4 [(0, .ref r0), (1, .int l1), (2, .int l2)] [.int (e_X12_isVariable μ l1)] μ 0 0 K
  refine G_if_eq (tgt := 11) d_X12_split_4 rfl (fun c0 => ?_) (fun c0 => ?_)
  ·
    refine G_iconst d_X12_split_11 ic_m1 ?_
    exact G_iret rfl rfl rfl d_X12_split_12 (hK c0)
  ·
    refine G_iload_n d_X12_split_7 rfl 2 rfl ?_
    refine G_if_ge (tgt := 13) d_X12_split_8 rfl (fun c1 => ?_) (fun c1 => ?_)
    ·
      refine G_aload_n d_X12_split_13 rfl 0 rfl ?_
      refine G_iload_n d_X12_split_14 rfl 1 rfl ?_
      refine G_iload_n d_X12_split_15 rfl 2 rfl ?_
      refine G_sub (L' := [(0, .ref r0), (1, .int l1)]) [0, 1] rfl ?_
      refine G_callV (M' := mX12_wayOf) (R' := (Rm (d + 2))) (S := []) [.int l1, .int l2] 12 (w12_kd hw12_r0) cok12 rfl ok_X12_wayOf ml_X12_281 pn_X12_wayOf (ru_Rm (by decide)) (Nat.le_of_ble_eq_true rfl) d_X12_split_16 ?_
      exact (hc_wayOf c0 c1)
    ·
      refine G_iconst d_X12_split_11 ic_m1 ?_
      exact G_iret rfl rfl rfl d_X12_split_12 (hK_2 c0 c1)
theorem b_X12_split_19 {X : cX} {d : Nat} {μ : mM} {K : Option Value → mM → Prop} {r0 : Nat} {l1 : Int32} {v0 : Int32} (h : ¬ v0 = ((-4) : Int32) → v0 ≤ (5 : Int32) → G X (Rm (d + 3)) mX12_split 45 [(0, .ref r0), (1, .int l1), (3, .int v0)] [] μ 0 0 K) (hw12_r0 : WF12 μ r0) (h_2 : ¬ v0 = ((-4) : Int32) → ¬ v0 ≤ (5 : Int32) → ¬ (e_X12_nodes μ r0) = (6 : Int32) → G X (Rm (d + 3)) mX12_split 45 [(0, .ref r0), (1, .int l1), (3, .int v0)] [] μ 0 0 K) (hK : ¬ v0 = ((-4) : Int32) → ¬ v0 ≤ (5 : Int32) → (e_X12_nodes μ r0) = (6 : Int32) → K (some (.int (-3))) μ) (hK_2 : v0 = ((-4) : Int32) → K (some (.int (-1))) μ) : G X (Rm (d + 3)) mX12_split 19 [(0, .ref r0), (1, .int l1)] [.int v0] μ 0 0 K := by
  refine G_istore_n (L' := [(3, .int v0), (0, .ref r0), (1, .int l1)]) d_X12_split_19 rfl (by decide) rfl ?_
  refine G_iload_n d_X12_split_20 rfl 0 rfl ?_
  refine G_bipush d_X12_split_21 bp_m4 ?_
  refine G_icmp_ne (tgt := 28) d_X12_split_23 rfl (fun c0 => ?_) (fun c0 => ?_)
  ·
    refine G_iload_n d_X12_split_28 rfl 0 rfl ?_
    refine G_iconst d_X12_split_29 ic_5 ?_
    refine G_icmp_le (tgt := 45) d_X12_split_30 rfl (fun c1 => ?_) (fun c1 => ?_)
    ·
      refine G_sub (L' := [(0, .ref r0), (1, .int l1), (3, .int v0)]) [1, 2, 0] rfl ?_
      exact (h c0 c1)
    ·
      refine G_aload_n d_X12_split_33 rfl 1 rfl ?_
      refine G_callV (M' := mX12_nodes) (R' := (Rm (d + 2))) (S := []) [] 12 (w12_kd hw12_r0) cok12 rfl ok_X12_nodes ml_X12_169 pn_X12_nodes (ru_Rm (by decide)) (Nat.le_of_ble_eq_true rfl) d_X12_split_34 (s_X12_nodes (μ := μ)  hw12_r0 ?_)
      show G X (Rm (d + 3)) mX12_split 37 [(3, .int v0), (0, .ref r0), (1, .int l1)] [.int (e_X12_nodes μ r0)] μ 0 0 K
      refine G_bipush d_X12_split_37 bp_6 ?_
      refine G_icmp_ne (tgt := 45) d_X12_split_39 rfl (fun c2 => ?_) (fun c2 => ?_)
      ·
        refine G_sub (L' := [(0, .ref r0), (1, .int l1), (3, .int v0)]) [1, 2, 0] rfl ?_
        exact (h_2 c0 c1 c2)
      ·
        refine G_bipush d_X12_split_42 bp_m3 ?_
        exact G_iret rfl rfl rfl d_X12_split_44 (hK c0 c1 c2)
  ·
    refine G_iconst d_X12_split_26 ic_m1 ?_
    exact G_iret rfl rfl rfl d_X12_split_27 (hK_2 c0)
theorem b_X12_split_45 {X : cX} {d : Nat} {μ : mM} {K : Option Value → mM → Prop} {r0 : Nat} {l1 : Int32} {l3 : Int32} (h : l3 ≤ (5 : Int32) → G X (Rm (d + 3)) mX12_split 59 [(0, .ref r0), (1, .int l1), (3, .int l3)] [] μ 0 0 K) (hw12_r0 : WF12 μ r0) (hc_twins : ¬ l3 ≤ (5 : Int32) → Ct X (Rm (d + 2)) mX12_twins [.ref r0, .int l1, .int (l3 - 6)] μ (fun r μ2 => G X (Rm (d + 3)) mX12_split 59 [(0, .ref r0), (1, .int l1), (3, .int l3)] (r.toList ++ []) μ2 0 0 K)) : G X (Rm (d + 3)) mX12_split 45 [(0, .ref r0), (1, .int l1), (3, .int l3)] [] μ 0 0 K := by
  refine G_iload_n d_X12_split_45 rfl 2 rfl ?_
  refine G_iconst d_X12_split_46 ic_5 ?_
  refine G_icmp_le (tgt := 59) d_X12_split_47 rfl (fun c0 => ?_) (fun c0 => ?_)
  ·
    exact (h c0)
  ·
    refine G_aload_n d_X12_split_50 rfl 0 rfl ?_
    refine G_iload_n d_X12_split_51 rfl 1 rfl ?_
    refine G_iload_n d_X12_split_52 rfl 2 rfl ?_
    refine G_bipush d_X12_split_53 bp_6 ?_
    refine G_isub d_X12_split_55 ?_
    refine G_callV (M' := mX12_twins) (R' := (Rm (d + 2))) (S := []) [.int l1, .int (l3 - 6)] 12 (w12_kd hw12_r0) cok12 rfl ok_X12_twins ml_X12_284 pn_X12_twins (ru_Rm (by decide)) (Nat.le_of_ble_eq_true rfl) d_X12_split_56 ?_
    exact (hc_twins c0)
theorem b_X12_split_59 {X : cX} {d : Nat} {μ : mM} {K : Option Value → mM → Prop} {r0 : Nat} {l1 : Int32} {l3 : Int32} (h : 0 ≤ l3 → G X (Rm (d + 3)) mX12_split 74 [(0, .ref r0), (3, .int l3)] [.int (l3 - l3 / 6 * 6), .int l1, .ref r0] μ 0 0 K) (h_2 : ¬ 0 ≤ l3 → G X (Rm (d + 3)) mX12_split 74 [(0, .ref r0), (3, .int l3)] [.int (-4), .int l1, .ref r0] μ 0 0 K) : G X (Rm (d + 3)) mX12_split 59 [(0, .ref r0), (1, .int l1), (3, .int l3)] [] μ 0 0 K := by
  refine G_aload_n d_X12_split_59 rfl 0 rfl ?_
  refine G_iload_n d_X12_split_60 rfl 1 rfl ?_
  refine G_iload_n d_X12_split_61 rfl 2 rfl ?_
  refine G_if_ge (tgt := 70) d_X12_split_62 rfl (fun c0 => ?_) (fun c0 => ?_)
  ·
    refine G_iload_n d_X12_split_70 rfl 2 rfl ?_
    refine G_bipush d_X12_split_71 bp_6 ?_
    refine G_irem d_X12_split_73 (by decide) ?_
    refine G_sub (L' := [(0, .ref r0), (3, .int l3)]) [0, 2] rfl ?_
    exact (h c0)
  ·
    refine G_bipush d_X12_split_65 bp_m4 ?_
    refine G_goto (tgt := 74) d_X12_split_67 rfl ?_
    refine G_sub (L' := [(0, .ref r0), (3, .int l3)]) [0, 2] rfl ?_
    exact (h_2 c0)
theorem b_X12_split_74 {X : cX} {d : Nat} {μ : mM} {K : Option Value → mM → Prop} {r0 : Nat} {l3 : Int32} {q0 : Nat} {v1 : Int32} {v2 : Int32} (hw12_q0 : WF12 μ q0) (hc_isAtAlone : Ct X (Rm (d + 2)) mX12_isAtAlone [.ref q0, .int v1, .int v2] μ (fun r μ2 => G X (Rm (d + 3)) mX12_split 77 [(0, .ref r0), (3, .int l3)] (r.toList ++ []) μ2 0 0 K)) : G X (Rm (d + 3)) mX12_split 74 [(0, .ref r0), (3, .int l3)] [.int v2, .int v1, .ref q0] μ 0 0 K := by
  refine G_callV (M' := mX12_isAtAlone) (R' := (Rm (d + 2))) (S := []) [.int v1, .int v2] 12 (w12_kd hw12_q0) cok12 rfl ok_X12_isAtAlone ml_X12_250 pn_X12_isAtAlone (ru_Rm (by decide)) (Nat.le_of_ble_eq_true rfl) d_X12_split_74 ?_
  exact hc_isAtAlone
theorem b_X12_split_77 {X : cX} {d : Nat} {μ : mM} {K : Option Value → mM → Prop} {r0 : Nat} {l3 : Int32} {j0 : Nat} (h : l3 < 0 → G X (Rm (d + 3)) mX12_split 91 [(0, .ref r0)] [] μ 0 0 K) (hw12_r0 : WF12 μ r0) (hi_j0 : ¬ l3 < 0 → l3 - l3 / 6 * 6 = nI j0) (hb : ¬ l3 < 0 → j0 < 366) (h_2 : ¬ l3 < 0 → G X (Rm (d + 3)) mX12_split 91 [(0, .ref r0)] [] (wi μ (r0 + 1) j0 0) 0 0 K) : G X (Rm (d + 3)) mX12_split 77 [(0, .ref r0), (3, .int l3)] [] μ 0 0 K := by
  refine G_iload_n d_X12_split_77 rfl 1 rfl ?_
  refine G_if_lt (tgt := 91) d_X12_split_78 rfl (fun c0 => ?_) (fun c0 => ?_)
  ·
    refine G_sub (L' := [(0, .ref r0)]) [0] rfl ?_
    exact (h c0)
  ·
    refine G_aload_n d_X12_split_81 rfl 0 rfl ?_
    refine G_getR (r := r0 + 1) 12 0 (w12_kd hw12_r0) (w12_f0 hw12_r0) cok12 (by decide) rfl fl_X12_7 d_X12_split_82 ?_
    refine G_iload_n d_X12_split_85 rfl 1 rfl ?_
    refine G_bipush d_X12_split_86 bp_6 ?_
    refine G_irem d_X12_split_88 (by decide) ?_
    refine G_iconst d_X12_split_89 ic_0 ?_
    refine G_iast j0 (w12_k0 hw12_r0) (hi_j0 c0) (hb c0) d_X12_split_90 ?_
    refine G_sub (L' := [(0, .ref r0)]) [0] rfl ?_
    exact (h_2 c0)
theorem b_X12_split_91 {X : cX} {d : Nat} {μ : mM} {K : Option Value → mM → Prop} {r0 : Nat} (hw12_r0 : WF12 μ r0) (hK : K (some (.int (e_X12_nodes μ r0))) μ) : G X (Rm (d + 3)) mX12_split 91 [(0, .ref r0)] [] μ 0 0 K := by
  refine G_aload_n d_X12_split_91 rfl 0 rfl ?_
  refine G_callV (M' := mX12_nodes) (R' := (Rm (d + 2))) (S := []) [] 12 (w12_kd hw12_r0) cok12 rfl ok_X12_nodes ml_X12_169 pn_X12_nodes (ru_Rm (by decide)) (Nat.le_of_ble_eq_true rfl) d_X12_split_92 (s_X12_nodes (μ := μ)  hw12_r0 ?_)
  show G X (Rm (d + 3)) mX12_split 95 [(0, .ref r0)] [.int (e_X12_nodes μ r0)] μ 0 0 K
  exact G_iret rfl rfl rfl d_X12_split_95 hK
theorem d_X12_run_0 : decode cX12_run 0 = .ok (.iload_n 2, 1) := by decide +kernel
theorem d_X12_run_1 : decode cX12_run 1 = .ok (.i2l, 1) := by decide +kernel
theorem d_X12_run_2 : decode cX12_run 2 = .ok (.lconst 1, 1) := by decide +kernel
theorem d_X12_run_3 : decode cX12_run 3 = .ok (.ldc2_w 287, 3) := by decide +kernel
theorem d_X12_run_6 : decode cX12_run 6 = .ok (.invokestatic 61, 3) := by decide +kernel
theorem d_X12_run_9 : decode cX12_run 9 = .ok (.ifCond .ne 5, 3) := by decide +kernel
theorem d_X12_run_12 : decode cX12_run 12 = .ok (.iconst (-1), 1) := by decide +kernel
theorem d_X12_run_13 : decode cX12_run 13 = .ok (.ireturn, 1) := by decide +kernel
theorem d_X12_run_14 : decode cX12_run 14 = .ok (.iload_n 1, 1) := by decide +kernel
theorem d_X12_run_15 : decode cX12_run 15 = .ok (.istore_n 3, 1) := by decide +kernel
theorem d_X12_run_16 : decode cX12_run 16 = .ok (.iconst 0, 1) := by decide +kernel
theorem d_X12_run_17 : decode cX12_run 17 = .ok (.istore 4, 2) := by decide +kernel
theorem d_X12_run_19 : decode cX12_run 19 = .ok (.iconst 0, 1) := by decide +kernel
theorem d_X12_run_20 : decode cX12_run 20 = .ok (.istore 5, 2) := by decide +kernel
theorem d_X12_run_22 : decode cX12_run 22 = .ok (.iload 5, 2) := by decide +kernel
theorem d_X12_run_24 : decode cX12_run 24 = .ok (.iload_n 2, 1) := by decide +kernel
theorem d_X12_run_25 : decode cX12_run 25 = .ok (.if_icmp .ge 65, 3) := by decide +kernel
theorem d_X12_run_28 : decode cX12_run 28 = .ok (.iload_n 3, 1) := by decide +kernel
theorem d_X12_run_29 : decode cX12_run 29 = .ok (.ldc_w 289, 3) := by decide +kernel
theorem d_X12_run_32 : decode cX12_run 32 = .ok (.imul, 1) := by decide +kernel
theorem d_X12_run_33 : decode cX12_run 33 = .ok (.sipush 12345, 3) := by decide +kernel
theorem d_X12_run_36 : decode cX12_run 36 = .ok (.iadd, 1) := by decide +kernel
theorem d_X12_run_37 : decode cX12_run 37 = .ok (.istore_n 3, 1) := by decide +kernel
theorem d_X12_run_38 : decode cX12_run 38 = .ok (.iload_n 3, 1) := by decide +kernel
theorem d_X12_run_39 : decode cX12_run 39 = .ok (.bipush 16, 2) := by decide +kernel
theorem d_X12_run_41 : decode cX12_run 41 = .ok (.ishr, 1) := by decide +kernel
theorem d_X12_run_42 : decode cX12_run 42 = .ok (.sipush 32767, 3) := by decide +kernel
theorem d_X12_run_45 : decode cX12_run 45 = .ok (.iand, 1) := by decide +kernel
theorem d_X12_run_46 : decode cX12_run 46 = .ok (.istore 6, 2) := by decide +kernel
theorem d_X12_run_48 : decode cX12_run 48 = .ok (.iload 4, 2) := by decide +kernel
theorem d_X12_run_50 : decode cX12_run 50 = .ok (.aload_n 0, 1) := by decide +kernel
theorem d_X12_run_51 : decode cX12_run 51 = .ok (.iload 6, 2) := by decide +kernel
theorem d_X12_run_53 : decode cX12_run 53 = .ok (.bipush 6, 2) := by decide +kernel
theorem d_X12_run_55 : decode cX12_run 55 = .ok (.irem, 1) := by decide +kernel
theorem d_X12_run_56 : decode cX12_run 56 = .ok (.iload 6, 2) := by decide +kernel
theorem d_X12_run_58 : decode cX12_run 58 = .ok (.bipush 8, 2) := by decide +kernel
theorem d_X12_run_60 : decode cX12_run 60 = .ok (.idiv, 1) := by decide +kernel
theorem d_X12_run_61 : decode cX12_run 61 = .ok (.iconst 3, 1) := by decide +kernel
theorem d_X12_run_62 : decode cX12_run 62 = .ok (.irem, 1) := by decide +kernel
theorem d_X12_run_63 : decode cX12_run 63 = .ok (.iload 6, 2) := by decide +kernel
theorem d_X12_run_65 : decode cX12_run 65 = .ok (.bipush 32, 2) := by decide +kernel
theorem d_X12_run_67 : decode cX12_run 67 = .ok (.idiv, 1) := by decide +kernel
theorem d_X12_run_68 : decode cX12_run 68 = .ok (.iconst 3, 1) := by decide +kernel
theorem d_X12_run_69 : decode cX12_run 69 = .ok (.irem, 1) := by decide +kernel
theorem d_X12_run_70 : decode cX12_run 70 = .ok (.invokevirtual 260, 3) := by decide +kernel
theorem d_X12_run_73 : decode cX12_run 73 = .ok (.ifCond .lt 7, 3) := by decide +kernel
theorem d_X12_run_76 : decode cX12_run 76 = .ok (.iconst 1, 1) := by decide +kernel
theorem d_X12_run_77 : decode cX12_run 77 = .ok (.goto 4, 3) := by decide +kernel
theorem d_X12_run_80 : decode cX12_run 80 = .ok (.iconst 0, 1) := by decide +kernel
theorem d_X12_run_81 : decode cX12_run 81 = .ok (.iadd, 1) := by decide +kernel
theorem d_X12_run_82 : decode cX12_run 82 = .ok (.istore 4, 2) := by decide +kernel
theorem d_X12_run_84 : decode cX12_run 84 = .ok (.iinc 5 1, 3) := by decide +kernel
theorem d_X12_run_87 : decode cX12_run 87 = .ok (.goto (-65), 3) := by decide +kernel
theorem d_X12_run_90 : decode cX12_run 90 = .ok (.iload 4, 2) := by decide +kernel
theorem d_X12_run_92 : decode cX12_run 92 = .ok (.ireturn, 1) := by decide +kernel
theorem b_X12_run_0 {X : cX} {d : Nat} {μ : mM} {K : Option Value → mM → Prop} {r0 : Nat} {l1 : Int32} {l2 : Int32} (h : ¬ (e_X12_in μ l2.toInt64 1 20) = 0 → G X (Rm (d + 3)) mX12_run 22 [(0, .ref r0), (2, .int l2), (3, .int l1), (4, .int 0), (5, .int (nI 0))] [] μ 0 0 K) (hK : (e_X12_in μ l2.toInt64 1 20) = 0 → K (some (.int (-1))) μ) : G X (Rm (d + 3)) mX12_run 0 [(0, .ref r0), (1, .int l1), (2, .int l2)] [] μ 0 0 K := by
  refine G_iload_n d_X12_run_0 rfl 2 rfl ?_
  refine G_i2l (v := l2.toInt64) d_X12_run_1 rfl ?_
  refine G_lconst (v := 1) d_X12_run_2 rfl ?_
  refine G_ldc2 kl_X12_287 d_X12_run_3 ?_
  refine G_callS (M' := mX12_in) (R' := (Rm (d + 2))) (S := []) [.long l2.toInt64, .long 1, .long 20] ok_X12_in ml_X12_61 pn_X12_in (ru_Rm (by decide)) (Nat.le_of_ble_eq_true rfl) d_X12_run_6 (s_X12_in (μ := μ)   ?_)
  show G X (Rm (d + 3)) mX12_run 9 [(0, .ref r0), (1, .int l1), (2, .int l2)] [.int (e_X12_in μ l2.toInt64 1 20)] μ 0 0 K
  refine G_if_ne (tgt := 14) d_X12_run_9 rfl (fun c0 => ?_) (fun c0 => ?_)
  ·
    refine G_iload_n d_X12_run_14 rfl 1 rfl ?_
    refine G_istore_n (L' := [(3, .int l1), (0, .ref r0), (1, .int l1), (2, .int l2)]) d_X12_run_15 rfl (by decide) rfl ?_
    refine G_iconst d_X12_run_16 ic_0 ?_
    refine G_istore (L' := [(4, .int 0), (3, .int l1), (0, .ref r0), (1, .int l1), (2, .int l2)]) d_X12_run_17 (by decide) rfl ?_
    refine G_iconst d_X12_run_19 ic_0 ?_
    refine G_istore (L' := [(5, .int (nI 0)), (4, .int 0), (3, .int l1), (0, .ref r0), (1, .int l1), (2, .int l2)]) d_X12_run_20 (by decide) rfl ?_
    refine G_sub (L' := [(0, .ref r0), (2, .int l2), (3, .int l1), (4, .int 0), (5, .int (nI 0))]) [3, 5, 2, 1, 0] rfl ?_
    exact (h c0)
  ·
    refine G_iconst d_X12_run_12 ic_m1 ?_
    exact G_iret rfl rfl rfl d_X12_run_13 (hK c0)
theorem b_X12_run_22 {X : cX} {d : Nat} {μ : mM} {K : Option Value → mM → Prop} {r0 : Nat} {l2 : Int32} {l3 : Int32} {l4 : Int32} {l5 : Int32} (hK : l2 ≤ l5 → K (some (.int l4)) μ) (hw12_r0 : WF12 μ r0) (hc_does : ¬ l2 ≤ l5 → Ct X (Rm (d + 2)) mX12_does [.ref r0, .int (((((l3 * 1103515245) + 12345) >>> ((16 : Int32) &&& 31)) &&& 32767) - ((((l3 * 1103515245) + 12345) >>> ((16 : Int32) &&& 31)) &&& 32767) / 6 * 6), .int ((((((l3 * 1103515245) + 12345) >>> ((16 : Int32) &&& 31)) &&& 32767) / 8) - (((((l3 * 1103515245) + 12345) >>> ((16 : Int32) &&& 31)) &&& 32767) / 8) / 3 * 3), .int ((((((l3 * 1103515245) + 12345) >>> ((16 : Int32) &&& 31)) &&& 32767) / 32) - (((((l3 * 1103515245) + 12345) >>> ((16 : Int32) &&& 31)) &&& 32767) / 32) / 3 * 3)] μ (fun r μ2 => G X (Rm (d + 3)) mX12_run 73 [(0, .ref r0), (2, .int l2), (3, .int ((l3 * 1103515245) + 12345)), (5, .int l5)] (r.toList ++ [.int l4]) μ2 0 0 K)) : G X (Rm (d + 3)) mX12_run 22 [(0, .ref r0), (2, .int l2), (3, .int l3), (4, .int l4), (5, .int l5)] [] μ 0 0 K := by
  refine G_iload d_X12_run_22 4 rfl ?_
  refine G_iload_n d_X12_run_24 rfl 1 rfl ?_
  refine G_icmp_ge (tgt := 90) d_X12_run_25 rfl (fun c0 => ?_) (fun c0 => ?_)
  ·
    refine G_iload d_X12_run_90 3 rfl ?_
    exact G_iret rfl rfl rfl d_X12_run_92 (hK c0)
  ·
    refine G_iload_n d_X12_run_28 rfl 2 rfl ?_
    refine G_ldcw kc_X12_289 d_X12_run_29 ?_
    refine G_imul d_X12_run_32 ?_
    refine G_sipush d_X12_run_33 sp_12345 ?_
    refine G_iadd d_X12_run_36 ?_
    refine G_istore_n (L' := [(3, .int ((l3 * 1103515245) + 12345)), (0, .ref r0), (2, .int l2), (4, .int l4), (5, .int l5)]) d_X12_run_37 rfl (by decide) rfl ?_
    refine G_iload_n d_X12_run_38 rfl 0 rfl ?_
    refine G_bipush d_X12_run_39 bp_16 ?_
    refine G_ishr d_X12_run_41 ?_
    refine G_sipush d_X12_run_42 sp_32767 ?_
    refine G_iand d_X12_run_45 ?_
    refine G_istore (L' := [(6, .int ((((l3 * 1103515245) + 12345) >>> ((16 : Int32) &&& 31)) &&& 32767)), (3, .int ((l3 * 1103515245) + 12345)), (0, .ref r0), (2, .int l2), (4, .int l4), (5, .int l5)]) d_X12_run_46 (by decide) rfl ?_
    refine G_iload d_X12_run_48 4 rfl ?_
    refine G_aload_n d_X12_run_50 rfl 2 rfl ?_
    refine G_iload d_X12_run_51 0 rfl ?_
    refine G_bipush d_X12_run_53 bp_6 ?_
    refine G_irem d_X12_run_55 (by decide) ?_
    refine G_iload d_X12_run_56 0 rfl ?_
    refine G_bipush d_X12_run_58 bp_8 ?_
    refine G_idiv d_X12_run_60 (by decide) ?_
    refine G_iconst d_X12_run_61 ic_3 ?_
    refine G_irem d_X12_run_62 (by decide) ?_
    refine G_iload d_X12_run_63 0 rfl ?_
    refine G_bipush d_X12_run_65 bp_32 ?_
    refine G_idiv d_X12_run_67 (by decide) ?_
    refine G_iconst d_X12_run_68 ic_3 ?_
    refine G_irem d_X12_run_69 (by decide) ?_
    refine G_sub (L' := [(0, .ref r0), (2, .int l2), (3, .int ((l3 * 1103515245) + 12345)), (5, .int l5)]) [2, 3, 1, 5] rfl ?_
    refine G_callV (M' := mX12_does) (R' := (Rm (d + 2))) (S := [.int l4]) [.int (((((l3 * 1103515245) + 12345) >>> ((16 : Int32) &&& 31)) &&& 32767) - ((((l3 * 1103515245) + 12345) >>> ((16 : Int32) &&& 31)) &&& 32767) / 6 * 6), .int ((((((l3 * 1103515245) + 12345) >>> ((16 : Int32) &&& 31)) &&& 32767) / 8) - (((((l3 * 1103515245) + 12345) >>> ((16 : Int32) &&& 31)) &&& 32767) / 8) / 3 * 3), .int ((((((l3 * 1103515245) + 12345) >>> ((16 : Int32) &&& 31)) &&& 32767) / 32) - (((((l3 * 1103515245) + 12345) >>> ((16 : Int32) &&& 31)) &&& 32767) / 32) / 3 * 3)] 12 (w12_kd hw12_r0) cok12 rfl ok_X12_does ml_X12_260 pn_X12_does (ru_Rm (by decide)) (Nat.le_of_ble_eq_true rfl) d_X12_run_70 ?_
    exact (hc_does c0)
theorem b_X12_run_73 {X : cX} {d : Nat} {μ : mM} {K : Option Value → mM → Prop} {r0 : Nat} {l2 : Int32} {l3 : Int32} {l5 : Int32} {v0 : Int32} {v1 : Int32} (h : v1 < 0 → G X (Rm (d + 3)) mX12_run 81 [(0, .ref r0), (2, .int l2), (3, .int l3), (5, .int l5)] [.int 0, .int v0] μ 0 0 K) (h_2 : ¬ v1 < 0 → G X (Rm (d + 3)) mX12_run 81 [(0, .ref r0), (2, .int l2), (3, .int l3), (5, .int l5)] [.int 1, .int v0] μ 0 0 K) : G X (Rm (d + 3)) mX12_run 73 [(0, .ref r0), (2, .int l2), (3, .int l3), (5, .int l5)] [.int v1, .int v0] μ 0 0 K := by
  refine G_if_lt (tgt := 80) d_X12_run_73 rfl (fun c0 => ?_) (fun c0 => ?_)
  ·
    refine G_iconst d_X12_run_80 ic_0 ?_
    exact (h c0)
  ·
    refine G_iconst d_X12_run_76 ic_1 ?_
    refine G_goto (tgt := 81) d_X12_run_77 rfl ?_
    exact (h_2 c0)
theorem b_X12_run_81 {X : cX} {d : Nat} {μ : mM} {K : Option Value → mM → Prop} {r0 : Nat} {l2 : Int32} {l3 : Int32} {i5 : Nat} {v0 : Int32} {v1 : Int32} (h : G X (Rm (d + 3)) mX12_run 22 [(0, .ref r0), (2, .int l2), (3, .int l3), (4, .int (v0 + v1)), (5, .int (nI (i5 + 1)))] [] μ 0 0 K) : G X (Rm (d + 3)) mX12_run 81 [(0, .ref r0), (2, .int l2), (3, .int l3), (5, .int (nI i5))] [.int v1, .int v0] μ 0 0 K := by
  refine G_iadd d_X12_run_81 ?_
  refine G_istore (L' := [(4, .int (v0 + v1)), (0, .ref r0), (2, .int l2), (3, .int l3), (5, .int (nI i5))]) d_X12_run_82 (by decide) rfl ?_
  refine G_iinc (L' := [(5, .int (nI (i5 + 1))), (4, .int (v0 + v1)), (0, .ref r0), (2, .int l2), (3, .int l3)]) d_X12_run_84 4 rfl (inc1 i5) (by decide) rfl ?_
  refine G_goto (tgt := 22) d_X12_run_87 rfl ?_
  refine G_sub (L' := [(0, .ref r0), (2, .int l2), (3, .int l3), (4, .int (v0 + v1)), (5, .int (nI (i5 + 1)))]) [2, 3, 4, 1, 0] rfl ?_
  exact h
theorem d_X12_keep_0 : decode cX12_keep 0 = .ok (.iload_n 1, 1) := by decide +kernel
theorem d_X12_keep_1 : decode cX12_keep 1 = .ok (.i2l, 1) := by decide +kernel
theorem d_X12_keep_2 : decode cX12_keep 2 = .ok (.lconst 0, 1) := by decide +kernel
theorem d_X12_keep_3 : decode cX12_keep 3 = .ok (.lconst 1, 1) := by decide +kernel
theorem d_X12_keep_4 : decode cX12_keep 4 = .ok (.invokestatic 61, 3) := by decide +kernel
theorem d_X12_keep_7 : decode cX12_keep 7 = .ok (.ifCond .ne 5, 3) := by decide +kernel
theorem d_X12_keep_10 : decode cX12_keep 10 = .ok (.iconst (-1), 1) := by decide +kernel
theorem d_X12_keep_11 : decode cX12_keep 11 = .ok (.ireturn, 1) := by decide +kernel
theorem d_X12_keep_12 : decode cX12_keep 12 = .ok (.aload_n 0, 1) := by decide +kernel
theorem d_X12_keep_13 : decode cX12_keep 13 = .ok (.getfield 43, 3) := by decide +kernel
theorem d_X12_keep_16 : decode cX12_keep 16 = .ok (.iload_n 1, 1) := by decide +kernel
theorem d_X12_keep_17 : decode cX12_keep 17 = .ok (.baload, 1) := by decide +kernel
theorem d_X12_keep_18 : decode cX12_keep 18 = .ok (.ifCond .eq 7, 3) := by decide +kernel
theorem d_X12_keep_21 : decode cX12_keep 21 = .ok (.iconst 1, 1) := by decide +kernel
theorem d_X12_keep_22 : decode cX12_keep 22 = .ok (.goto 4, 3) := by decide +kernel
theorem d_X12_keep_25 : decode cX12_keep 25 = .ok (.iconst 0, 1) := by decide +kernel
theorem d_X12_keep_26 : decode cX12_keep 26 = .ok (.istore_n 2, 1) := by decide +kernel
theorem d_X12_keep_27 : decode cX12_keep 27 = .ok (.aload_n 0, 1) := by decide +kernel
theorem d_X12_keep_28 : decode cX12_keep 28 = .ok (.iconst 0, 1) := by decide +kernel
theorem d_X12_keep_29 : decode cX12_keep 29 = .ok (.bipush 61, 2) := by decide +kernel
theorem d_X12_keep_31 : decode cX12_keep 31 = .ok (.iload_n 1, 1) := by decide +kernel
theorem d_X12_keep_32 : decode cX12_keep 32 = .ok (.imul, 1) := by decide +kernel
theorem d_X12_keep_33 : decode cX12_keep 33 = .ok (.bipush 61, 2) := by decide +kernel
theorem d_X12_keep_35 : decode cX12_keep 35 = .ok (.iadd, 1) := by decide +kernel
theorem d_X12_keep_36 : decode cX12_keep 36 = .ok (.invokevirtual 162, 3) := by decide +kernel
theorem d_X12_keep_39 : decode cX12_keep 39 = .ok (.aload_n 0, 1) := by decide +kernel
theorem d_X12_keep_40 : decode cX12_keep 40 = .ok (.getfield 43, 3) := by decide +kernel
theorem d_X12_keep_43 : decode cX12_keep 43 = .ok (.iload_n 1, 1) := by decide +kernel
theorem d_X12_keep_44 : decode cX12_keep 44 = .ok (.iconst 1, 1) := by decide +kernel
theorem d_X12_keep_45 : decode cX12_keep 45 = .ok (.bastore, 1) := by decide +kernel
theorem d_X12_keep_46 : decode cX12_keep 46 = .ok (.iload_n 2, 1) := by decide +kernel
theorem d_X12_keep_47 : decode cX12_keep 47 = .ok (.ireturn, 1) := by decide +kernel
theorem b_X12_keep_0 {X : cX} {d : Nat} {μ : mM} {K : Option Value → mM → Prop} {r0 : Nat} {i1 : Nat} (hw12_r0 : WF12 μ r0) (hb : ¬ (e_X12_in μ ((nI i1).toInt64) 0 1) = 0 → i1 < 2) (h : ¬ (e_X12_in μ ((nI i1).toInt64) 0 1) = 0 → (iv μ (r0 + 12) i1) = 0 → G X (Rm (d + 1)) mX12_keep 26 [(0, .ref r0), (1, .int (nI i1))] [.int 0] μ 0 0 K) (h_2 : ¬ (e_X12_in μ ((nI i1).toInt64) 0 1) = 0 → ¬ (iv μ (r0 + 12) i1) = 0 → G X (Rm (d + 1)) mX12_keep 26 [(0, .ref r0), (1, .int (nI i1))] [.int 1] μ 0 0 K) (hK : (e_X12_in μ ((nI i1).toInt64) 0 1) = 0 → K (some (.int (-1))) μ) : G X (Rm (d + 1)) mX12_keep 0 [(0, .ref r0), (1, .int (nI i1))] [] μ 0 0 K := by
  refine G_iload_n d_X12_keep_0 rfl 1 rfl ?_
  refine G_i2l (v := (nI i1).toInt64) d_X12_keep_1 rfl ?_
  refine G_lconst (v := 0) d_X12_keep_2 rfl ?_
  refine G_lconst (v := 1) d_X12_keep_3 rfl ?_
  refine G_callS (M' := mX12_in) (R' := (Rm d)) (S := []) [.long ((nI i1).toInt64), .long 0, .long 1] ok_X12_in ml_X12_61 pn_X12_in (ru_Rm (by decide)) (Nat.le_of_ble_eq_true rfl) d_X12_keep_4 (s_X12_in (μ := μ)   ?_)
  show G X (Rm (d + 1)) mX12_keep 7 [(0, .ref r0), (1, .int (nI i1))] [.int (e_X12_in μ ((nI i1).toInt64) 0 1)] μ 0 0 K
  refine G_if_ne (tgt := 12) d_X12_keep_7 rfl (fun c0 => ?_) (fun c0 => ?_)
  ·
    refine G_aload_n d_X12_keep_12 rfl 0 rfl ?_
    refine G_getR (r := r0 + 12) 12 23 (w12_kd hw12_r0) (w12_f23 hw12_r0) cok12 (by decide) rfl fl_X12_43 d_X12_keep_13 ?_
    refine G_iload_n d_X12_keep_16 rfl 1 rfl ?_
    refine G_zald i1 (w12_k23 hw12_r0) rfl (hb c0) d_X12_keep_17 ?_
    refine G_if_eq (tgt := 25) d_X12_keep_18 rfl (fun c1 => ?_) (fun c1 => ?_)
    ·
      refine G_iconst d_X12_keep_25 ic_0 ?_
      exact (h c0 c1)
    ·
      refine G_iconst d_X12_keep_21 ic_1 ?_
      refine G_goto (tgt := 26) d_X12_keep_22 rfl ?_
      exact (h_2 c0 c1)
  ·
    refine G_iconst d_X12_keep_10 ic_m1 ?_
    exact G_iret rfl rfl rfl d_X12_keep_11 (hK c0)
theorem b_X12_keep_26 {X : cX} {d : Nat} {μ : mM} {K : Option Value → mM → Prop} {r0 : Nat} {l1 : Int32} {v0 : Int32} (hw12_r0 : WF12 μ r0) (hc_copies : Ct X (Rm d) mX12_copies [.ref r0, .int 0, .int (((61 : Int32) * l1) + 61)] μ (fun r μ2 => G X (Rm (d + 1)) mX12_keep 39 [(0, .ref r0), (1, .int l1), (2, .int v0)] (r.toList ++ []) μ2 0 0 K)) : G X (Rm (d + 1)) mX12_keep 26 [(0, .ref r0), (1, .int l1)] [.int v0] μ 0 0 K := by
  refine G_istore_n (L' := [(2, .int v0), (0, .ref r0), (1, .int l1)]) d_X12_keep_26 rfl (by decide) rfl ?_
  refine G_aload_n d_X12_keep_27 rfl 1 rfl ?_
  refine G_iconst d_X12_keep_28 ic_0 ?_
  refine G_bipush d_X12_keep_29 bp_61 ?_
  refine G_iload_n d_X12_keep_31 rfl 2 rfl ?_
  refine G_imul d_X12_keep_32 ?_
  refine G_bipush d_X12_keep_33 bp_61 ?_
  refine G_iadd d_X12_keep_35 ?_
  refine G_sub (L' := [(0, .ref r0), (1, .int l1), (2, .int v0)]) [1, 2, 0] rfl ?_
  refine G_callV (M' := mX12_copies) (R' := (Rm d)) (S := []) [.int 0, .int (((61 : Int32) * l1) + 61)] 12 (w12_kd hw12_r0) cok12 rfl ok_X12_copies ml_X12_162 pn_X12_copies (ru_Rm (by decide)) (Nat.le_of_ble_eq_true rfl) d_X12_keep_36 ?_
  exact hc_copies
theorem b_X12_keep_39 {X : cX} {d : Nat} {μ : mM} {K : Option Value → mM → Prop} {r0 : Nat} {i1 : Nat} {l2 : Int32} (hw12_r0 : WF12 μ r0) (hb : i1 < 2) (hK : K (some (.int l2)) (wi μ (r0 + 12) i1 1)) : G X (Rm (d + 1)) mX12_keep 39 [(0, .ref r0), (1, .int (nI i1)), (2, .int l2)] [] μ 0 0 K := by
  refine G_aload_n d_X12_keep_39 rfl 0 rfl ?_
  refine G_getR (r := r0 + 12) 12 23 (w12_kd hw12_r0) (w12_f23 hw12_r0) cok12 (by decide) rfl fl_X12_43 d_X12_keep_40 ?_
  refine G_iload_n d_X12_keep_43 rfl 1 rfl ?_
  refine G_iconst d_X12_keep_44 ic_1 ?_
  refine G_zast (v := 1) i1 (w12_k23 hw12_r0) rfl hb rfl d_X12_keep_45 ?_
  refine G_iload_n d_X12_keep_46 rfl 2 rfl ?_
  exact G_iret rfl rfl rfl d_X12_keep_47 hK
theorem d_X12_back_0 : decode cX12_back 0 = .ok (.iload_n 1, 1) := by decide +kernel
theorem d_X12_back_1 : decode cX12_back 1 = .ok (.i2l, 1) := by decide +kernel
theorem d_X12_back_2 : decode cX12_back 2 = .ok (.lconst 0, 1) := by decide +kernel
theorem d_X12_back_3 : decode cX12_back 3 = .ok (.lconst 1, 1) := by decide +kernel
theorem d_X12_back_4 : decode cX12_back 4 = .ok (.invokestatic 61, 3) := by decide +kernel
theorem d_X12_back_7 : decode cX12_back 7 = .ok (.ifCond .ne 5, 3) := by decide +kernel
theorem d_X12_back_10 : decode cX12_back 10 = .ok (.iconst (-1), 1) := by decide +kernel
theorem d_X12_back_11 : decode cX12_back 11 = .ok (.ireturn, 1) := by decide +kernel
theorem d_X12_back_12 : decode cX12_back 12 = .ok (.aload_n 0, 1) := by decide +kernel
theorem d_X12_back_13 : decode cX12_back 13 = .ok (.getfield 43, 3) := by decide +kernel
theorem d_X12_back_16 : decode cX12_back 16 = .ok (.iload_n 1, 1) := by decide +kernel
theorem d_X12_back_17 : decode cX12_back 17 = .ok (.baload, 1) := by decide +kernel
theorem d_X12_back_18 : decode cX12_back 18 = .ok (.ifCond .ne 6, 3) := by decide +kernel
theorem d_X12_back_21 : decode cX12_back 21 = .ok (.bipush (-2), 2) := by decide +kernel
theorem d_X12_back_23 : decode cX12_back 23 = .ok (.ireturn, 1) := by decide +kernel
theorem d_X12_back_24 : decode cX12_back 24 = .ok (.aload_n 0, 1) := by decide +kernel
theorem d_X12_back_25 : decode cX12_back 25 = .ok (.bipush 61, 2) := by decide +kernel
theorem d_X12_back_27 : decode cX12_back 27 = .ok (.iload_n 1, 1) := by decide +kernel
theorem d_X12_back_28 : decode cX12_back 28 = .ok (.imul, 1) := by decide +kernel
theorem d_X12_back_29 : decode cX12_back 29 = .ok (.bipush 61, 2) := by decide +kernel
theorem d_X12_back_31 : decode cX12_back 31 = .ok (.iadd, 1) := by decide +kernel
theorem d_X12_back_32 : decode cX12_back 32 = .ok (.iconst 0, 1) := by decide +kernel
theorem d_X12_back_33 : decode cX12_back 33 = .ok (.invokevirtual 162, 3) := by decide +kernel
theorem d_X12_back_36 : decode cX12_back 36 = .ok (.aload_n 0, 1) := by decide +kernel
theorem d_X12_back_37 : decode cX12_back 37 = .ok (.invokevirtual 169, 3) := by decide +kernel
theorem d_X12_back_40 : decode cX12_back 40 = .ok (.ireturn, 1) := by decide +kernel
theorem b_X12_back_0 {X : cX} {d : Nat} {μ : mM} {K : Option Value → mM → Prop} {r0 : Nat} {i1 : Nat} (hw12_r0 : WF12 μ r0) (hb : ¬ (e_X12_in μ ((nI i1).toInt64) 0 1) = 0 → i1 < 2) (hc_copies : ¬ (e_X12_in μ ((nI i1).toInt64) 0 1) = 0 → ¬ (iv μ (r0 + 12) i1) = 0 → Ct X (Rm d) mX12_copies [.ref r0, .int (((61 : Int32) * (nI i1)) + 61), .int 0] μ (fun r μ2 => G X (Rm (d + 1)) mX12_back 36 [(0, .ref r0)] (r.toList ++ []) μ2 0 0 K)) (hK : ¬ (e_X12_in μ ((nI i1).toInt64) 0 1) = 0 → (iv μ (r0 + 12) i1) = 0 → K (some (.int (-2))) μ) (hK_2 : (e_X12_in μ ((nI i1).toInt64) 0 1) = 0 → K (some (.int (-1))) μ) : G X (Rm (d + 1)) mX12_back 0 [(0, .ref r0), (1, .int (nI i1))] [] μ 0 0 K := by
  refine G_iload_n d_X12_back_0 rfl 1 rfl ?_
  refine G_i2l (v := (nI i1).toInt64) d_X12_back_1 rfl ?_
  refine G_lconst (v := 0) d_X12_back_2 rfl ?_
  refine G_lconst (v := 1) d_X12_back_3 rfl ?_
  refine G_callS (M' := mX12_in) (R' := (Rm d)) (S := []) [.long ((nI i1).toInt64), .long 0, .long 1] ok_X12_in ml_X12_61 pn_X12_in (ru_Rm (by decide)) (Nat.le_of_ble_eq_true rfl) d_X12_back_4 (s_X12_in (μ := μ)   ?_)
  show G X (Rm (d + 1)) mX12_back 7 [(0, .ref r0), (1, .int (nI i1))] [.int (e_X12_in μ ((nI i1).toInt64) 0 1)] μ 0 0 K
  refine G_if_ne (tgt := 12) d_X12_back_7 rfl (fun c0 => ?_) (fun c0 => ?_)
  ·
    refine G_aload_n d_X12_back_12 rfl 0 rfl ?_
    refine G_getR (r := r0 + 12) 12 23 (w12_kd hw12_r0) (w12_f23 hw12_r0) cok12 (by decide) rfl fl_X12_43 d_X12_back_13 ?_
    refine G_iload_n d_X12_back_16 rfl 1 rfl ?_
    refine G_zald i1 (w12_k23 hw12_r0) rfl (hb c0) d_X12_back_17 ?_
    refine G_if_ne (tgt := 24) d_X12_back_18 rfl (fun c1 => ?_) (fun c1 => ?_)
    ·
      refine G_aload_n d_X12_back_24 rfl 0 rfl ?_
      refine G_bipush d_X12_back_25 bp_61 ?_
      refine G_iload_n d_X12_back_27 rfl 1 rfl ?_
      refine G_imul d_X12_back_28 ?_
      refine G_bipush d_X12_back_29 bp_61 ?_
      refine G_iadd d_X12_back_31 ?_
      refine G_iconst d_X12_back_32 ic_0 ?_
      refine G_sub (L' := [(0, .ref r0)]) [0] rfl ?_
      refine G_callV (M' := mX12_copies) (R' := (Rm d)) (S := []) [.int (((61 : Int32) * (nI i1)) + 61), .int 0] 12 (w12_kd hw12_r0) cok12 rfl ok_X12_copies ml_X12_162 pn_X12_copies (ru_Rm (by decide)) (Nat.le_of_ble_eq_true rfl) d_X12_back_33 ?_
      exact (hc_copies c0 c1)
    ·
      refine G_bipush d_X12_back_21 bp_m2 ?_
      exact G_iret rfl rfl rfl d_X12_back_23 (hK c0 c1)
  ·
    refine G_iconst d_X12_back_10 ic_m1 ?_
    exact G_iret rfl rfl rfl d_X12_back_11 (hK_2 c0)
theorem b_X12_back_36 {X : cX} {d : Nat} {μ : mM} {K : Option Value → mM → Prop} {r0 : Nat} (hw12_r0 : WF12 μ r0) (hK : K (some (.int (e_X12_nodes μ r0))) μ) : G X (Rm (d + 1)) mX12_back 36 [(0, .ref r0)] [] μ 0 0 K := by
  refine G_aload_n d_X12_back_36 rfl 0 rfl ?_
  refine G_callV (M' := mX12_nodes) (R' := (Rm d)) (S := []) [] 12 (w12_kd hw12_r0) cok12 rfl ok_X12_nodes ml_X12_169 pn_X12_nodes (ru_Rm (by decide)) (Nat.le_of_ble_eq_true rfl) d_X12_back_37 (s_X12_nodes (μ := μ)  hw12_r0 ?_)
  show G X (Rm (d + 1)) mX12_back 40 [(0, .ref r0)] [.int (e_X12_nodes μ r0)] μ 0 0 K
  exact G_iret rfl rfl rfl d_X12_back_40 hK
theorem d_X12_isLike_0 : decode cX12_isLike 0 = .ok (.iload_n 1, 1) := by decide +kernel
theorem d_X12_isLike_1 : decode cX12_isLike 1 = .ok (.iconst 1, 1) := by decide +kernel
theorem d_X12_isLike_2 : decode cX12_isLike 2 = .ok (.if_icmp .eq 8, 3) := by decide +kernel
theorem d_X12_isLike_5 : decode cX12_isLike 5 = .ok (.iload_n 1, 1) := by decide +kernel
theorem d_X12_isLike_6 : decode cX12_isLike 6 = .ok (.iload_n 2, 1) := by decide +kernel
theorem d_X12_isLike_7 : decode cX12_isLike 7 = .ok (.if_icmp .ne 7, 3) := by decide +kernel
theorem d_X12_isLike_10 : decode cX12_isLike 10 = .ok (.iconst 1, 1) := by decide +kernel
theorem d_X12_isLike_11 : decode cX12_isLike 11 = .ok (.goto 4, 3) := by decide +kernel
theorem d_X12_isLike_14 : decode cX12_isLike 14 = .ok (.iconst 0, 1) := by decide +kernel
theorem d_X12_isLike_15 : decode cX12_isLike 15 = .ok (.ireturn, 1) := by decide +kernel
theorem b_X12_isLike_0 {X : cX} {d : Nat} {μ : mM} {K : Option Value → mM → Prop} {l1 : Int32} {l2 : Int32} (hK : l1 = (1 : Int32) → K (some (.int 1)) μ) (hK_2 : ¬ l1 = (1 : Int32) → ¬ l1 = l2 → K (some (.int 0)) μ) (hK_3 : ¬ l1 = (1 : Int32) → l1 = l2 → K (some (.int 1)) μ) : G X (Rm d) mX12_isLike 0 [(1, .int l1), (2, .int l2)] [] μ 0 0 K := by
  refine G_iload_n d_X12_isLike_0 rfl 0 rfl ?_
  refine G_iconst d_X12_isLike_1 ic_1 ?_
  refine G_icmp_eq (tgt := 10) d_X12_isLike_2 rfl (fun c0 => ?_) (fun c0 => ?_)
  ·
    refine G_iconst d_X12_isLike_10 ic_1 ?_
    refine G_goto (tgt := 15) d_X12_isLike_11 rfl ?_
    exact G_zret rfl rfl rfl rfl d_X12_isLike_15 (hK c0)
  ·
    refine G_iload_n d_X12_isLike_5 rfl 0 rfl ?_
    refine G_iload_n d_X12_isLike_6 rfl 1 rfl ?_
    refine G_icmp_ne (tgt := 14) d_X12_isLike_7 rfl (fun c1 => ?_) (fun c1 => ?_)
    ·
      refine G_iconst d_X12_isLike_14 ic_0 ?_
      exact G_zret rfl rfl rfl rfl d_X12_isLike_15 (hK_2 c0 c1)
    ·
      refine G_iconst d_X12_isLike_10 ic_1 ?_
      refine G_goto (tgt := 15) d_X12_isLike_11 rfl ?_
      exact G_zret rfl rfl rfl rfl d_X12_isLike_15 (hK_3 c0 c1)
def e_X12_isLike (μ : mM) (r0 : Nat) (l1 : Int32) (l2 : Int32) : Int32 := (if l1 = (1 : Int32) then 1 else (if l1 = l2 then 1 else 0))
theorem s_X12_isLike {X : cX} {d : Nat} {μ : mM} {K : Option Value → mM → Prop} {r0 : Nat} {l1 : Int32} {l2 : Int32}  (hK : K (some (.int (e_X12_isLike μ r0 l1 l2))) μ) : Ct X (Rm d) mX12_isLike [.ref r0, .int l1, .int l2] μ K := Ct_of rfl (Nat.le_of_ble_eq_true rfl) (G_sub [1, 2] rfl (b_X12_isLike_0 (fun c0 => by unfold e_X12_isLike at hK; rw [if_pos c0] at hK; exact hK) (fun c0 c1 => by unfold e_X12_isLike at hK; rw [if_neg c0, if_neg c1] at hK; exact hK) (fun c0 c1 => by unfold e_X12_isLike at hK; rw [if_neg c0, if_pos c1] at hK; exact hK)))
