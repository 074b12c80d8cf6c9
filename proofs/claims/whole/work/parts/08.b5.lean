theorem nadd {x y : Int32} {a b : Nat} (hx : x = nI a) (hy : y = nI b) : x + y = nI (a + b) := by rw [hx, hy]; exact nI_add a b
theorem nmul {x y : Int32} {a b : Nat} (hx : x = nI a) (hy : y = nI b) : x * y = nI (a * b) := by rw [hx, hy]; exact pk_mul a b
theorem d_X5_has_0 : decode cX5_has 0 = .ok (.iload_n 1, 1) := by decide +kernel
theorem d_X5_has_1 : decode cX5_has 1 = .ok (.ifCond .lt 15, 3) := by decide +kernel
theorem d_X5_has_4 : decode cX5_has 4 = .ok (.iload_n 1, 1) := by decide +kernel
theorem d_X5_has_5 : decode cX5_has 5 = .ok (.aload_n 0, 1) := by decide +kernel
theorem d_X5_has_6 : decode cX5_has 6 = .ok (.getfield 29, 3) := by decide +kernel
theorem d_X5_has_9 : decode cX5_has 9 = .ok (.if_icmp .ge 7, 3) := by decide +kernel
theorem d_X5_has_12 : decode cX5_has 12 = .ok (.iconst 1, 1) := by decide +kernel
theorem d_X5_has_13 : decode cX5_has 13 = .ok (.goto 4, 3) := by decide +kernel
theorem d_X5_has_16 : decode cX5_has 16 = .ok (.iconst 0, 1) := by decide +kernel
theorem d_X5_has_17 : decode cX5_has 17 = .ok (.ireturn, 1) := by decide +kernel
theorem b_X5_has_0 {X : cX} {d : Nat} {μ : mM} {K : Option Value → mM → Prop} {r0 : Nat} {l1 : Int32} (hK : l1 < 0 → K (some (.int 0)) μ) (w5_r0 : WF5 μ r0) (hK_2 : ¬ l1 < 0 → (iv μ r0 0) ≤ l1 → K (some (.int 0)) μ) (hK_3 : ¬ l1 < 0 → ¬ (iv μ r0 0) ≤ l1 → K (some (.int 1)) μ) : G X (Rm d) mX5_has 0 [(0, .ref r0), (1, .int l1)] [] μ 0 0 K := by
  refine G_iload_n d_X5_has_0 rfl 1 rfl ?_
  refine G_if_lt (tgt := 16) d_X5_has_1 rfl (fun c0 => ?_) (fun c0 => ?_)
  ·
    refine G_iconst d_X5_has_16 ic_0 ?_
    exact G_zret rfl rfl rfl rfl d_X5_has_17 (hK c0)
  ·
    refine G_iload_n d_X5_has_4 rfl 1 rfl ?_
    refine G_aload_n d_X5_has_5 rfl 0 rfl ?_
    refine G_getI 5 0 (w5_kd w5_r0) cok5 (by decide) rfl fl_X5_29 d_X5_has_6 ?_
    refine G_icmp_ge (tgt := 16) d_X5_has_9 rfl (fun c1 => ?_) (fun c1 => ?_)
    ·
      refine G_iconst d_X5_has_16 ic_0 ?_
      exact G_zret rfl rfl rfl rfl d_X5_has_17 (hK_2 c0 c1)
    ·
      refine G_iconst d_X5_has_12 ic_1 ?_
      refine G_goto (tgt := 17) d_X5_has_13 rfl ?_
      exact G_zret rfl rfl rfl rfl d_X5_has_17 (hK_3 c0 c1)
theorem d_X5_isFull_0 : decode cX5_isFull 0 = .ok (.aload_n 0, 1) := by decide +kernel
theorem d_X5_isFull_1 : decode cX5_isFull 1 = .ok (.getfield 29, 3) := by decide +kernel
theorem d_X5_isFull_4 : decode cX5_isFull 4 = .ok (.bipush 6, 2) := by decide +kernel
theorem d_X5_isFull_6 : decode cX5_isFull 6 = .ok (.if_icmp .lt 7, 3) := by decide +kernel
theorem d_X5_isFull_9 : decode cX5_isFull 9 = .ok (.iconst 1, 1) := by decide +kernel
theorem d_X5_isFull_10 : decode cX5_isFull 10 = .ok (.goto 4, 3) := by decide +kernel
theorem d_X5_isFull_13 : decode cX5_isFull 13 = .ok (.iconst 0, 1) := by decide +kernel
theorem d_X5_isFull_14 : decode cX5_isFull 14 = .ok (.ireturn, 1) := by decide +kernel
theorem b_X5_isFull_0 {X : cX} {d : Nat} {μ : mM} {K : Option Value → mM → Prop} {r0 : Nat} (w5_r0 : WF5 μ r0) (hK : (iv μ r0 0) < (6 : Int32) → K (some (.int 0)) μ) (hK_2 : ¬ (iv μ r0 0) < (6 : Int32) → K (some (.int 1)) μ) : G X (Rm d) mX5_isFull 0 [(0, .ref r0)] [] μ 0 0 K := by
  refine G_aload_n d_X5_isFull_0 rfl 0 rfl ?_
  refine G_getI 5 0 (w5_kd w5_r0) cok5 (by decide) rfl fl_X5_29 d_X5_isFull_1 ?_
  refine G_bipush d_X5_isFull_4 bp_6 ?_
  refine G_icmp_lt (tgt := 13) d_X5_isFull_6 rfl (fun c0 => ?_) (fun c0 => ?_)
  ·
    refine G_iconst d_X5_isFull_13 ic_0 ?_
    exact G_zret rfl rfl rfl rfl d_X5_isFull_14 (hK c0)
  ·
    refine G_iconst d_X5_isFull_9 ic_1 ?_
    refine G_goto (tgt := 14) d_X5_isFull_10 rfl ?_
    exact G_zret rfl rfl rfl rfl d_X5_isFull_14 (hK_2 c0)
theorem d_X5_clear_0 : decode cX5_clear 0 = .ok (.aload_n 0, 1) := by decide +kernel
theorem d_X5_clear_1 : decode cX5_clear 1 = .ok (.iconst 0, 1) := by decide +kernel
theorem d_X5_clear_2 : decode cX5_clear 2 = .ok (.putfield 29, 3) := by decide +kernel
theorem d_X5_clear_5 : decode cX5_clear 5 = .ok (.iconst 0, 1) := by decide +kernel
theorem d_X5_clear_6 : decode cX5_clear 6 = .ok (.istore_n 1, 1) := by decide +kernel
theorem d_X5_clear_7 : decode cX5_clear 7 = .ok (.iload_n 1, 1) := by decide +kernel
theorem d_X5_clear_8 : decode cX5_clear 8 = .ok (.iconst 3, 1) := by decide +kernel
theorem d_X5_clear_9 : decode cX5_clear 9 = .ok (.if_icmp .ge 19, 3) := by decide +kernel
theorem d_X5_clear_12 : decode cX5_clear 12 = .ok (.aload_n 0, 1) := by decide +kernel
theorem d_X5_clear_13 : decode cX5_clear 13 = .ok (.getfield 17, 3) := by decide +kernel
theorem d_X5_clear_16 : decode cX5_clear 16 = .ok (.iload_n 1, 1) := by decide +kernel
theorem d_X5_clear_17 : decode cX5_clear 17 = .ok (.aaload, 1) := by decide +kernel
theorem d_X5_clear_18 : decode cX5_clear 18 = .ok (.iconst 0, 1) := by decide +kernel
theorem d_X5_clear_19 : decode cX5_clear 19 = .ok (.invokestatic 33, 3) := by decide +kernel
theorem d_X5_clear_22 : decode cX5_clear 22 = .ok (.iinc 1 1, 3) := by decide +kernel
theorem d_X5_clear_25 : decode cX5_clear 25 = .ok (.goto (-18), 3) := by decide +kernel
theorem d_X5_clear_28 : decode cX5_clear 28 = .ok (.iconst 0, 1) := by decide +kernel
theorem d_X5_clear_29 : decode cX5_clear 29 = .ok (.istore_n 1, 1) := by decide +kernel
theorem d_X5_clear_30 : decode cX5_clear 30 = .ok (.iload_n 1, 1) := by decide +kernel
theorem d_X5_clear_31 : decode cX5_clear 31 = .ok (.bipush 6, 2) := by decide +kernel
theorem d_X5_clear_33 : decode cX5_clear 33 = .ok (.if_icmp .ge 26, 3) := by decide +kernel
theorem d_X5_clear_36 : decode cX5_clear 36 = .ok (.aload_n 0, 1) := by decide +kernel
theorem d_X5_clear_37 : decode cX5_clear 37 = .ok (.getfield 9, 3) := by decide +kernel
theorem d_X5_clear_40 : decode cX5_clear 40 = .ok (.iload_n 1, 1) := by decide +kernel
theorem d_X5_clear_41 : decode cX5_clear 41 = .ok (.iconst 0, 1) := by decide +kernel
theorem d_X5_clear_42 : decode cX5_clear 42 = .ok (.bastore, 1) := by decide +kernel
theorem d_X5_clear_43 : decode cX5_clear 43 = .ok (.aload_n 0, 1) := by decide +kernel
theorem d_X5_clear_44 : decode cX5_clear 44 = .ok (.getfield 20, 3) := by decide +kernel
theorem d_X5_clear_47 : decode cX5_clear 47 = .ok (.iload_n 1, 1) := by decide +kernel
theorem d_X5_clear_48 : decode cX5_clear 48 = .ok (.aaload, 1) := by decide +kernel
theorem d_X5_clear_49 : decode cX5_clear 49 = .ok (.iconst 0, 1) := by decide +kernel
theorem d_X5_clear_50 : decode cX5_clear 50 = .ok (.invokestatic 33, 3) := by decide +kernel
theorem d_X5_clear_53 : decode cX5_clear 53 = .ok (.iinc 1 1, 3) := by decide +kernel
theorem d_X5_clear_56 : decode cX5_clear 56 = .ok (.goto (-26), 3) := by decide +kernel
theorem d_X5_clear_59 : decode cX5_clear 59 = .ok (.return_, 1) := by decide +kernel
theorem b_X5_clear_0 {X : cX} {d : Nat} {μ : mM} {K : Option Value → mM → Prop} {r0 : Nat} (w5_r0 : WF5 μ r0) (h : G X (Rm (d + 1)) mX5_clear 7 [(0, .ref r0), (1, .int 0)] [] (wi μ r0 0 0) 0 0 K) : G X (Rm (d + 1)) mX5_clear 0 [(0, .ref r0)] [] μ 0 0 K := by
  refine G_aload_n d_X5_clear_0 rfl 0 rfl ?_
  refine G_iconst d_X5_clear_1 ic_0 ?_
  refine G_putI 5 0 (w5_kd w5_r0) rfl rfl cok5 (by decide) rfl (Or.inl rfl) fl_X5_29 d_X5_clear_2 ?_
  refine G_iconst d_X5_clear_5 ic_0 ?_
  refine G_istore_n (L' := [(1, .int 0), (0, .ref r0)]) d_X5_clear_6 rfl (by decide) rfl ?_
  refine G_sub (L' := [(0, .ref r0), (1, .int 0)]) [1, 0] rfl ?_
  exact h
theorem b_X5_clear_7 {X : cX} {d : Nat} {μ : mM} {K : Option Value → mM → Prop} {r0 : Nat} {i1 : Nat} (h : (3 : Int32) ≤ (nI i1) → G X (Rm (d + 1)) mX5_clear 30 [(0, .ref r0), (1, .int 0)] [] μ 0 0 K) (w5_r0 : WF5 μ r0) (hb : ¬ (3 : Int32) ≤ (nI i1) → i1 < 3) (hc_fill : ¬ (3 : Int32) ≤ (nI i1) → Ct X (Rm d) mJ7_fill_53178 [.ref (r0 + 3 + i1), .int 0] μ (fun r μ2 => G X (Rm (d + 1)) mX5_clear 22 [(0, .ref r0), (1, .int (nI i1))] (r.toList ++ []) μ2 0 0 K)) : G X (Rm (d + 1)) mX5_clear 7 [(0, .ref r0), (1, .int (nI i1))] [] μ 0 0 K := by
  refine G_iload_n d_X5_clear_7 rfl 1 rfl ?_
  refine G_iconst d_X5_clear_8 ic_3 ?_
  refine G_icmp_ge (tgt := 28) d_X5_clear_9 rfl (fun c0 => ?_) (fun c0 => ?_)
  ·
    refine G_iconst d_X5_clear_28 ic_0 ?_
    refine G_istore_n (L' := [(1, .int 0), (0, .ref r0)]) d_X5_clear_29 rfl (by decide) rfl ?_
    refine G_sub (L' := [(0, .ref r0), (1, .int 0)]) [1, 0] rfl ?_
    exact (h c0)
  ·
    refine G_aload_n d_X5_clear_12 rfl 0 rfl ?_
    refine G_getR (r := r0 + 2) 5 2 (w5_kd w5_r0) (w5_f2 w5_r0) cok5 (by decide) rfl fl_X5_17 d_X5_clear_13 ?_
    refine G_iload_n d_X5_clear_16 rfl 1 rfl ?_
    refine G_aaldA (r := r0 + 3 + i1) i1 (w5_k2 w5_r0) rfl (hb c0) (w5_r2 w5_r0 i1 (hb c0)) d_X5_clear_17 ?_
    refine G_iconst d_X5_clear_18 ic_0 ?_
    refine G_callS (M' := mJ7_fill_53178) (R' := (Rm d)) (S := []) [.ref (r0 + 3 + i1), .int 0] ok_J7_fill_53178 ml_X5_33 pn_J7_fill_53178 (ru_Rm (by decide)) (Nat.le_of_ble_eq_true rfl) d_X5_clear_19 ?_
    exact (hc_fill c0)
theorem b_X5_clear_22 {X : cX} {d : Nat} {μ : mM} {K : Option Value → mM → Prop} {r0 : Nat} {i1 : Nat} (h : G X (Rm (d + 1)) mX5_clear 7 [(0, .ref r0), (1, .int (nI (i1 + 1)))] [] μ 0 0 K) : G X (Rm (d + 1)) mX5_clear 22 [(0, .ref r0), (1, .int (nI i1))] [] μ 0 0 K := by
  refine G_iinc (L' := [(1, .int (nI (i1 + 1))), (0, .ref r0)]) d_X5_clear_22 1 rfl (inc1 i1) (by decide) rfl ?_
  refine G_goto (tgt := 7) d_X5_clear_25 rfl ?_
  refine G_sub (L' := [(0, .ref r0), (1, .int (nI (i1 + 1)))]) [1, 0] rfl ?_
  exact h
theorem b_X5_clear_30 {X : cX} {d : Nat} {μ : mM} {K : Option Value → mM → Prop} {r0 : Nat} {i1 : Nat} (hK : (6 : Int32) ≤ (nI i1) → K none μ) (w5_r0 : WF5 μ r0) (hb : ¬ (6 : Int32) ≤ (nI i1) → i1 < 6) (hc_fill : ¬ (6 : Int32) ≤ (nI i1) → Ct X (Rm d) mJ7_fill_53178 [.ref (r0 + 7 + i1), .int 0] (wi μ (r0 + 1) i1 0) (fun r μ2 => G X (Rm (d + 1)) mX5_clear 53 [(0, .ref r0), (1, .int (nI i1))] (r.toList ++ []) μ2 0 0 K)) : G X (Rm (d + 1)) mX5_clear 30 [(0, .ref r0), (1, .int (nI i1))] [] μ 0 0 K := by
  refine G_iload_n d_X5_clear_30 rfl 1 rfl ?_
  refine G_bipush d_X5_clear_31 bp_6 ?_
  refine G_icmp_ge (tgt := 59) d_X5_clear_33 rfl (fun c0 => ?_) (fun c0 => ?_)
  ·
    exact G_vret rfl rfl rfl d_X5_clear_59 (hK c0)
  ·
    refine G_aload_n d_X5_clear_36 rfl 0 rfl ?_
    refine G_getR (r := r0 + 1) 5 1 (w5_kd w5_r0) (w5_f1 w5_r0) cok5 (by decide) rfl fl_X5_9 d_X5_clear_37 ?_
    refine G_iload_n d_X5_clear_40 rfl 1 rfl ?_
    refine G_iconst d_X5_clear_41 ic_0 ?_
    refine G_zast (v := 0) i1 (w5_k1 w5_r0) rfl (hb c0) rfl d_X5_clear_42 ?_
    refine G_aload_n d_X5_clear_43 rfl 0 rfl ?_
    refine G_getR (r := r0 + 6) 5 3 (w5_kd w5_r0) (w5_f3 w5_r0) cok5 (by decide) rfl fl_X5_20 d_X5_clear_44 ?_
    refine G_iload_n d_X5_clear_47 rfl 1 rfl ?_
    refine G_aaldA (r := r0 + 7 + i1) i1 (w5_k3 w5_r0) rfl (hb c0) (w5_r3 w5_r0 i1 (hb c0)) d_X5_clear_48 ?_
    refine G_iconst d_X5_clear_49 ic_0 ?_
    refine G_callS (M' := mJ7_fill_53178) (R' := (Rm d)) (S := []) [.ref (r0 + 7 + i1), .int 0] ok_J7_fill_53178 ml_X5_33 pn_J7_fill_53178 (ru_Rm (by decide)) (Nat.le_of_ble_eq_true rfl) d_X5_clear_50 ?_
    exact (hc_fill c0)
theorem b_X5_clear_53 {X : cX} {d : Nat} {μ : mM} {K : Option Value → mM → Prop} {r0 : Nat} {i1 : Nat} (h : G X (Rm (d + 1)) mX5_clear 30 [(0, .ref r0), (1, .int (nI (i1 + 1)))] [] μ 0 0 K) : G X (Rm (d + 1)) mX5_clear 53 [(0, .ref r0), (1, .int (nI i1))] [] μ 0 0 K := by
  refine G_iinc (L' := [(1, .int (nI (i1 + 1))), (0, .ref r0)]) d_X5_clear_53 1 rfl (inc1 i1) (by decide) rfl ?_
  refine G_goto (tgt := 30) d_X5_clear_56 rfl ?_
  refine G_sub (L' := [(0, .ref r0), (1, .int (nI (i1 + 1)))]) [1, 0] rfl ?_
  exact h
theorem d_X5_copy_0 : decode cX5_copy 0 = .ok (.aload_n 0, 1) := by decide +kernel
theorem d_X5_copy_1 : decode cX5_copy 1 = .ok (.aload_n 1, 1) := by decide +kernel
theorem d_X5_copy_2 : decode cX5_copy 2 = .ok (.getfield 29, 3) := by decide +kernel
theorem d_X5_copy_5 : decode cX5_copy 5 = .ok (.putfield 29, 3) := by decide +kernel
theorem d_X5_copy_8 : decode cX5_copy 8 = .ok (.iconst 0, 1) := by decide +kernel
theorem d_X5_copy_9 : decode cX5_copy 9 = .ok (.istore_n 2, 1) := by decide +kernel
theorem d_X5_copy_10 : decode cX5_copy 10 = .ok (.iload_n 2, 1) := by decide +kernel
theorem d_X5_copy_11 : decode cX5_copy 11 = .ok (.iconst 3, 1) := by decide +kernel
theorem d_X5_copy_12 : decode cX5_copy 12 = .ok (.if_icmp .ge 28, 3) := by decide +kernel
theorem d_X5_copy_15 : decode cX5_copy 15 = .ok (.aload_n 1, 1) := by decide +kernel
theorem d_X5_copy_16 : decode cX5_copy 16 = .ok (.getfield 17, 3) := by decide +kernel
theorem d_X5_copy_19 : decode cX5_copy 19 = .ok (.iload_n 2, 1) := by decide +kernel
theorem d_X5_copy_20 : decode cX5_copy 20 = .ok (.aaload, 1) := by decide +kernel
theorem d_X5_copy_21 : decode cX5_copy 21 = .ok (.iconst 0, 1) := by decide +kernel
theorem d_X5_copy_22 : decode cX5_copy 22 = .ok (.aload_n 0, 1) := by decide +kernel
theorem d_X5_copy_23 : decode cX5_copy 23 = .ok (.getfield 17, 3) := by decide +kernel
theorem d_X5_copy_26 : decode cX5_copy 26 = .ok (.iload_n 2, 1) := by decide +kernel
theorem d_X5_copy_27 : decode cX5_copy 27 = .ok (.aaload, 1) := by decide +kernel
theorem d_X5_copy_28 : decode cX5_copy 28 = .ok (.iconst 0, 1) := by decide +kernel
theorem d_X5_copy_29 : decode cX5_copy 29 = .ok (.bipush 6, 2) := by decide +kernel
theorem d_X5_copy_31 : decode cX5_copy 31 = .ok (.invokestatic 39, 3) := by decide +kernel
theorem d_X5_copy_34 : decode cX5_copy 34 = .ok (.iinc 2 1, 3) := by decide +kernel
theorem d_X5_copy_37 : decode cX5_copy 37 = .ok (.goto (-27), 3) := by decide +kernel
theorem d_X5_copy_40 : decode cX5_copy 40 = .ok (.iconst 0, 1) := by decide +kernel
theorem d_X5_copy_41 : decode cX5_copy 41 = .ok (.istore_n 2, 1) := by decide +kernel
theorem d_X5_copy_42 : decode cX5_copy 42 = .ok (.iload_n 2, 1) := by decide +kernel
theorem d_X5_copy_43 : decode cX5_copy 43 = .ok (.bipush 6, 2) := by decide +kernel
theorem d_X5_copy_45 : decode cX5_copy 45 = .ok (.if_icmp .ge 40, 3) := by decide +kernel
theorem d_X5_copy_48 : decode cX5_copy 48 = .ok (.aload_n 0, 1) := by decide +kernel
theorem d_X5_copy_49 : decode cX5_copy 49 = .ok (.getfield 9, 3) := by decide +kernel
theorem d_X5_copy_52 : decode cX5_copy 52 = .ok (.iload_n 2, 1) := by decide +kernel
theorem d_X5_copy_53 : decode cX5_copy 53 = .ok (.aload_n 1, 1) := by decide +kernel
theorem d_X5_copy_54 : decode cX5_copy 54 = .ok (.getfield 9, 3) := by decide +kernel
theorem d_X5_copy_57 : decode cX5_copy 57 = .ok (.iload_n 2, 1) := by decide +kernel
theorem d_X5_copy_58 : decode cX5_copy 58 = .ok (.baload, 1) := by decide +kernel
theorem d_X5_copy_59 : decode cX5_copy 59 = .ok (.bastore, 1) := by decide +kernel
theorem d_X5_copy_60 : decode cX5_copy 60 = .ok (.aload_n 1, 1) := by decide +kernel
theorem d_X5_copy_61 : decode cX5_copy 61 = .ok (.getfield 20, 3) := by decide +kernel
theorem d_X5_copy_64 : decode cX5_copy 64 = .ok (.iload_n 2, 1) := by decide +kernel
theorem d_X5_copy_65 : decode cX5_copy 65 = .ok (.aaload, 1) := by decide +kernel
theorem d_X5_copy_66 : decode cX5_copy 66 = .ok (.iconst 0, 1) := by decide +kernel
theorem d_X5_copy_67 : decode cX5_copy 67 = .ok (.aload_n 0, 1) := by decide +kernel
theorem d_X5_copy_68 : decode cX5_copy 68 = .ok (.getfield 20, 3) := by decide +kernel
theorem d_X5_copy_71 : decode cX5_copy 71 = .ok (.iload_n 2, 1) := by decide +kernel
theorem d_X5_copy_72 : decode cX5_copy 72 = .ok (.aaload, 1) := by decide +kernel
theorem d_X5_copy_73 : decode cX5_copy 73 = .ok (.iconst 0, 1) := by decide +kernel
theorem d_X5_copy_74 : decode cX5_copy 74 = .ok (.bipush 6, 2) := by decide +kernel
theorem d_X5_copy_76 : decode cX5_copy 76 = .ok (.invokestatic 39, 3) := by decide +kernel
theorem d_X5_copy_79 : decode cX5_copy 79 = .ok (.iinc 2 1, 3) := by decide +kernel
theorem d_X5_copy_82 : decode cX5_copy 82 = .ok (.goto (-40), 3) := by decide +kernel
theorem d_X5_copy_85 : decode cX5_copy 85 = .ok (.return_, 1) := by decide +kernel
theorem b_X5_copy_0 {X : cX} {d : Nat} {μ : mM} {K : Option Value → mM → Prop} {r0 : Nat} {r1 : Nat} (w5_r1 : WF5 μ r1) (w5_r0 : WF5 μ r0) (h : G X (Rm (d + 1)) mX5_copy 10 [(0, .ref r0), (1, .ref r1), (2, .int 0)] [] (wi μ r0 0 (iv μ r1 0)) 0 0 K) : G X (Rm (d + 1)) mX5_copy 0 [(0, .ref r0), (1, .ref r1)] [] μ 0 0 K := by
  refine G_aload_n d_X5_copy_0 rfl 0 rfl ?_
  refine G_aload_n d_X5_copy_1 rfl 1 rfl ?_
  refine G_getI 5 0 (w5_kd w5_r1) cok5 (by decide) rfl fl_X5_29 d_X5_copy_2 ?_
  refine G_putI 5 0 (w5_kd w5_r0) rfl rfl cok5 (by decide) rfl (Or.inl rfl) fl_X5_29 d_X5_copy_5 ?_
  refine G_iconst d_X5_copy_8 ic_0 ?_
  refine G_istore_n (L' := [(2, .int 0), (0, .ref r0), (1, .ref r1)]) d_X5_copy_9 rfl (by decide) rfl ?_
  refine G_sub (L' := [(0, .ref r0), (1, .ref r1), (2, .int 0)]) [1, 2, 0] rfl ?_
  exact h
theorem b_X5_copy_10 {X : cX} {d : Nat} {μ : mM} {K : Option Value → mM → Prop} {r0 : Nat} {r1 : Nat} {i2 : Nat} (h : (3 : Int32) ≤ (nI i2) → G X (Rm (d + 1)) mX5_copy 42 [(0, .ref r0), (1, .ref r1), (2, .int 0)] [] μ 0 0 K) (w5_r1 : WF5 μ r1) (hb : ¬ (3 : Int32) ≤ (nI i2) → i2 < 3) (w5_r0 : WF5 μ r0) (h_2 : ¬ (3 : Int32) ≤ (nI i2) → G X (Rm (d + 1)) mX5_copy 10 [(0, .ref r0), (1, .ref r1), (2, .int (nI (i2 + 1)))] [] (cpI μ (r1 + 3 + i2) 0 (r0 + 3 + i2) 0 6) 0 0 K) : G X (Rm (d + 1)) mX5_copy 10 [(0, .ref r0), (1, .ref r1), (2, .int (nI i2))] [] μ 0 0 K := by
  refine G_iload_n d_X5_copy_10 rfl 2 rfl ?_
  refine G_iconst d_X5_copy_11 ic_3 ?_
  refine G_icmp_ge (tgt := 40) d_X5_copy_12 rfl (fun c0 => ?_) (fun c0 => ?_)
  ·
    refine G_iconst d_X5_copy_40 ic_0 ?_
    refine G_istore_n (L' := [(2, .int 0), (0, .ref r0), (1, .ref r1)]) d_X5_copy_41 rfl (by decide) rfl ?_
    refine G_sub (L' := [(0, .ref r0), (1, .ref r1), (2, .int 0)]) [1, 2, 0] rfl ?_
    exact (h c0)
  ·
    refine G_aload_n d_X5_copy_15 rfl 1 rfl ?_
    refine G_getR (r := r1 + 2) 5 2 (w5_kd w5_r1) (w5_f2 w5_r1) cok5 (by decide) rfl fl_X5_17 d_X5_copy_16 ?_
    refine G_iload_n d_X5_copy_19 rfl 2 rfl ?_
    refine G_aaldA (r := r1 + 3 + i2) i2 (w5_k2 w5_r1) rfl (hb c0) (w5_r2 w5_r1 i2 (hb c0)) d_X5_copy_20 ?_
    refine G_iconst d_X5_copy_21 ic_0 ?_
    refine G_aload_n d_X5_copy_22 rfl 0 rfl ?_
    refine G_getR (r := r0 + 2) 5 2 (w5_kd w5_r0) (w5_f2 w5_r0) cok5 (by decide) rfl fl_X5_17 d_X5_copy_23 ?_
    refine G_iload_n d_X5_copy_26 rfl 2 rfl ?_
    refine G_aaldA (r := r0 + 3 + i2) i2 (w5_k2 w5_r0) rfl (hb c0) (w5_r2 w5_r0 i2 (hb c0)) d_X5_copy_27 ?_
    refine G_iconst d_X5_copy_28 ic_0 ?_
    refine G_bipush d_X5_copy_29 bp_6 ?_
    refine G_copy (sp := 0) (dp := 0) (n := 6) (w5_q2 w5_r1 i2 (hb c0)) (w5_q2 w5_r0 i2 (hb c0)) rfl rfl rfl (by decide) (by decide) ml_X5_39 rb_Rm (Nat.le_of_ble_eq_true rfl) d_X5_copy_31 ?_
    refine G_iinc (L' := [(2, .int (nI (i2 + 1))), (0, .ref r0), (1, .ref r1)]) d_X5_copy_34 2 rfl (inc1 i2) (by decide) rfl ?_
    refine G_goto (tgt := 10) d_X5_copy_37 rfl ?_
    refine G_sub (L' := [(0, .ref r0), (1, .ref r1), (2, .int (nI (i2 + 1)))]) [1, 2, 0] rfl ?_
    exact (h_2 c0)
theorem b_X5_copy_42 {X : cX} {d : Nat} {μ : mM} {K : Option Value → mM → Prop} {r0 : Nat} {r1 : Nat} {i2 : Nat} (hK : (6 : Int32) ≤ (nI i2) → K none μ) (w5_r0 : WF5 μ r0) (w5_r1 : WF5 μ r1) (hb : ¬ (6 : Int32) ≤ (nI i2) → i2 < 6) (hz : ¬ (6 : Int32) ≤ (nI i2) → iv μ (r1 + 1) i2 = 0 ∨ iv μ (r1 + 1) i2 = 1) (h : ¬ (6 : Int32) ≤ (nI i2) → G X (Rm (d + 1)) mX5_copy 42 [(0, .ref r0), (1, .ref r1), (2, .int (nI (i2 + 1)))] [] (cpI (wi μ (r0 + 1) i2 (iv μ (r1 + 1) i2)) (r1 + 7 + i2) 0 (r0 + 7 + i2) 0 6) 0 0 K) : G X (Rm (d + 1)) mX5_copy 42 [(0, .ref r0), (1, .ref r1), (2, .int (nI i2))] [] μ 0 0 K := by
  refine G_iload_n d_X5_copy_42 rfl 2 rfl ?_
  refine G_bipush d_X5_copy_43 bp_6 ?_
  refine G_icmp_ge (tgt := 85) d_X5_copy_45 rfl (fun c0 => ?_) (fun c0 => ?_)
  ·
    exact G_vret rfl rfl rfl d_X5_copy_85 (hK c0)
  ·
    refine G_aload_n d_X5_copy_48 rfl 0 rfl ?_
    refine G_getR (r := r0 + 1) 5 1 (w5_kd w5_r0) (w5_f1 w5_r0) cok5 (by decide) rfl fl_X5_9 d_X5_copy_49 ?_
    refine G_iload_n d_X5_copy_52 rfl 2 rfl ?_
    refine G_aload_n d_X5_copy_53 rfl 1 rfl ?_
    refine G_getR (r := r1 + 1) 5 1 (w5_kd w5_r1) (w5_f1 w5_r1) cok5 (by decide) rfl fl_X5_9 d_X5_copy_54 ?_
    refine G_iload_n d_X5_copy_57 rfl 2 rfl ?_
    refine G_zald i2 (w5_k1 w5_r1) rfl (hb c0) d_X5_copy_58 ?_
    refine G_zast (v := iv μ (r1 + 1) i2) i2 (w5_k1 w5_r0) rfl (hb c0) (vpn_b (hz c0)) d_X5_copy_59 ?_
    refine G_aload_n d_X5_copy_60 rfl 1 rfl ?_
    refine G_getR (r := r1 + 6) 5 3 (w5_kd w5_r1) (w5_f3 w5_r1) cok5 (by decide) rfl fl_X5_20 d_X5_copy_61 ?_
    refine G_iload_n d_X5_copy_64 rfl 2 rfl ?_
    refine G_aaldA (r := r1 + 7 + i2) i2 (w5_k3 w5_r1) rfl (hb c0) (w5_r3 w5_r1 i2 (hb c0)) d_X5_copy_65 ?_
    refine G_iconst d_X5_copy_66 ic_0 ?_
    refine G_aload_n d_X5_copy_67 rfl 0 rfl ?_
    refine G_getR (r := r0 + 6) 5 3 (w5_kd w5_r0) (w5_f3 w5_r0) cok5 (by decide) rfl fl_X5_20 d_X5_copy_68 ?_
    refine G_iload_n d_X5_copy_71 rfl 2 rfl ?_
    refine G_aaldA (r := r0 + 7 + i2) i2 (w5_k3 w5_r0) rfl (hb c0) (w5_r3 w5_r0 i2 (hb c0)) d_X5_copy_72 ?_
    refine G_iconst d_X5_copy_73 ic_0 ?_
    refine G_bipush d_X5_copy_74 bp_6 ?_
    refine G_copy (sp := 0) (dp := 0) (n := 6) (w5_q3 w5_r1 i2 (hb c0)) (w5_q3 w5_r0 i2 (hb c0)) rfl rfl rfl (by decide) (by decide) ml_X5_39 rb_Rm (Nat.le_of_ble_eq_true rfl) d_X5_copy_76 ?_
    refine G_iinc (L' := [(2, .int (nI (i2 + 1))), (0, .ref r0), (1, .ref r1)]) d_X5_copy_79 2 rfl (inc1 i2) (by decide) rfl ?_
    refine G_goto (tgt := 42) d_X5_copy_82 rfl ?_
    refine G_sub (L' := [(0, .ref r0), (1, .ref r1), (2, .int (nI (i2 + 1)))]) [1, 2, 0] rfl ?_
    exact (h c0)
theorem d_X5_append_0 : decode cX5_append 0 = .ok (.aload_n 0, 1) := by decide +kernel
theorem d_X5_append_1 : decode cX5_append 1 = .ok (.getfield 29, 3) := by decide +kernel
theorem d_X5_append_4 : decode cX5_append 4 = .ok (.bipush 6, 2) := by decide +kernel
theorem d_X5_append_6 : decode cX5_append 6 = .ok (.if_icmp .ge 23, 3) := by decide +kernel
theorem d_X5_append_9 : decode cX5_append 9 = .ok (.aload_n 0, 1) := by decide +kernel
theorem d_X5_append_10 : decode cX5_append 10 = .ok (.getfield 9, 3) := by decide +kernel
theorem d_X5_append_13 : decode cX5_append 13 = .ok (.aload_n 0, 1) := by decide +kernel
theorem d_X5_append_14 : decode cX5_append 14 = .ok (.getfield 29, 3) := by decide +kernel
theorem d_X5_append_17 : decode cX5_append 17 = .ok (.iload_n 1, 1) := by decide +kernel
theorem d_X5_append_18 : decode cX5_append 18 = .ok (.bastore, 1) := by decide +kernel
theorem d_X5_append_19 : decode cX5_append 19 = .ok (.aload_n 0, 1) := by decide +kernel
theorem d_X5_append_20 : decode cX5_append 20 = .ok (.dup, 1) := by decide +kernel
theorem d_X5_append_21 : decode cX5_append 21 = .ok (.getfield 29, 3) := by decide +kernel
theorem d_X5_append_24 : decode cX5_append 24 = .ok (.iconst 1, 1) := by decide +kernel
theorem d_X5_append_25 : decode cX5_append 25 = .ok (.iadd, 1) := by decide +kernel
theorem d_X5_append_26 : decode cX5_append 26 = .ok (.putfield 29, 3) := by decide +kernel
theorem d_X5_append_29 : decode cX5_append 29 = .ok (.return_, 1) := by decide +kernel
theorem b_X5_append_0 {X : cX} {d : Nat} {μ : mM} {K : Option Value → mM → Prop} {r0 : Nat} {l1 : Int32} {j0 : Nat} (w5_r0 : WF5 μ r0) (hK : (6 : Int32) ≤ (iv μ r0 0) → K none μ) (hi_j0 : ¬ (6 : Int32) ≤ (iv μ r0 0) → iv μ r0 0 = nI j0) (hb : ¬ (6 : Int32) ≤ (iv μ r0 0) → j0 < 6) (hz : ¬ (6 : Int32) ≤ (iv μ r0 0) → l1 = 0 ∨ l1 = 1) (hK_2 : ¬ (6 : Int32) ≤ (iv μ r0 0) → K none (wi (wi μ (r0 + 1) j0 l1) r0 0 ((iv (wi μ (r0 + 1) j0 l1) r0 0) + 1))) : G X (Rm d) mX5_append 0 [(0, .ref r0), (1, .int l1)] [] μ 0 0 K := by
  refine G_aload_n d_X5_append_0 rfl 0 rfl ?_
  refine G_getI 5 0 (w5_kd w5_r0) cok5 (by decide) rfl fl_X5_29 d_X5_append_1 ?_
  refine G_bipush d_X5_append_4 bp_6 ?_
  refine G_icmp_ge (tgt := 29) d_X5_append_6 rfl (fun c0 => ?_) (fun c0 => ?_)
  ·
    exact G_vret rfl rfl rfl d_X5_append_29 (hK c0)
  ·
    refine G_aload_n d_X5_append_9 rfl 0 rfl ?_
    refine G_getR (r := r0 + 1) 5 1 (w5_kd w5_r0) (w5_f1 w5_r0) cok5 (by decide) rfl fl_X5_9 d_X5_append_10 ?_
    refine G_aload_n d_X5_append_13 rfl 0 rfl ?_
    refine G_getI 5 0 (w5_kd w5_r0) cok5 (by decide) rfl fl_X5_29 d_X5_append_14 ?_
    refine G_iload_n d_X5_append_17 rfl 1 rfl ?_
    refine G_zast (v := l1) j0 (w5_k1 w5_r0) (hi_j0 c0) (hb c0) (vpn_b (hz c0)) d_X5_append_18 ?_
    refine G_aload_n d_X5_append_19 rfl 0 rfl ?_
    refine G_dup d_X5_append_20 rfl ?_
    refine G_getI 5 0 (w5_kd w5_r0) cok5 (by decide) rfl fl_X5_29 d_X5_append_21 ?_
    refine G_iconst d_X5_append_24 ic_1 ?_
    refine G_iadd d_X5_append_25 ?_
    refine G_putI 5 0 (w5_kd w5_r0) rfl rfl cok5 (by decide) rfl (Or.inl rfl) fl_X5_29 d_X5_append_26 ?_
    exact G_vret rfl rfl rfl d_X5_append_29 (hK_2 c0)
theorem d_X5_drop_0 : decode cX5_drop 0 = .ok (.aload_n 0, 1) := by decide +kernel
theorem d_X5_drop_1 : decode cX5_drop 1 = .ok (.iload_n 1, 1) := by decide +kernel
theorem d_X5_drop_2 : decode cX5_drop 2 = .ok (.invokevirtual 45, 3) := by decide +kernel
theorem d_X5_drop_5 : decode cX5_drop 5 = .ok (.ifCond .ne 4, 3) := by decide +kernel
theorem d_X5_drop_8 : decode cX5_drop 8 = .ok (.return_, 1) := by decide +kernel
theorem d_X5_drop_9 : decode cX5_drop 9 = .ok (.iconst 0, 1) := by decide +kernel
theorem d_X5_drop_10 : decode cX5_drop 10 = .ok (.istore_n 2, 1) := by decide +kernel
theorem d_X5_drop_11 : decode cX5_drop 11 = .ok (.iload_n 2, 1) := by decide +kernel
theorem d_X5_drop_12 : decode cX5_drop 12 = .ok (.iconst 3, 1) := by decide +kernel
theorem d_X5_drop_13 : decode cX5_drop 13 = .ok (.if_icmp .ge 19, 3) := by decide +kernel
theorem d_X5_drop_16 : decode cX5_drop 16 = .ok (.aload_n 0, 1) := by decide +kernel
theorem d_X5_drop_17 : decode cX5_drop 17 = .ok (.getfield 17, 3) := by decide +kernel
theorem d_X5_drop_20 : decode cX5_drop 20 = .ok (.iload_n 2, 1) := by decide +kernel
theorem d_X5_drop_21 : decode cX5_drop 21 = .ok (.aaload, 1) := by decide +kernel
theorem d_X5_drop_22 : decode cX5_drop 22 = .ok (.iload_n 1, 1) := by decide +kernel
theorem d_X5_drop_23 : decode cX5_drop 23 = .ok (.invokestatic 49, 3) := by decide +kernel
theorem d_X5_drop_26 : decode cX5_drop 26 = .ok (.iinc 2 1, 3) := by decide +kernel
theorem d_X5_drop_29 : decode cX5_drop 29 = .ok (.goto (-18), 3) := by decide +kernel
theorem d_X5_drop_32 : decode cX5_drop 32 = .ok (.iconst 0, 1) := by decide +kernel
theorem d_X5_drop_33 : decode cX5_drop 33 = .ok (.istore_n 2, 1) := by decide +kernel
theorem d_X5_drop_34 : decode cX5_drop 34 = .ok (.iload_n 2, 1) := by decide +kernel
theorem d_X5_drop_35 : decode cX5_drop 35 = .ok (.bipush 6, 2) := by decide +kernel
theorem d_X5_drop_37 : decode cX5_drop 37 = .ok (.if_icmp .ge 19, 3) := by decide +kernel
theorem d_X5_drop_40 : decode cX5_drop 40 = .ok (.aload_n 0, 1) := by decide +kernel
theorem d_X5_drop_41 : decode cX5_drop 41 = .ok (.getfield 20, 3) := by decide +kernel
theorem d_X5_drop_44 : decode cX5_drop 44 = .ok (.iload_n 2, 1) := by decide +kernel
theorem d_X5_drop_45 : decode cX5_drop 45 = .ok (.aaload, 1) := by decide +kernel
theorem d_X5_drop_46 : decode cX5_drop 46 = .ok (.iload_n 1, 1) := by decide +kernel
theorem d_X5_drop_47 : decode cX5_drop 47 = .ok (.invokestatic 49, 3) := by decide +kernel
theorem d_X5_drop_50 : decode cX5_drop 50 = .ok (.iinc 2 1, 3) := by decide +kernel
theorem d_X5_drop_53 : decode cX5_drop 53 = .ok (.goto (-19), 3) := by decide +kernel
theorem d_X5_drop_56 : decode cX5_drop 56 = .ok (.iload_n 1, 1) := by decide +kernel
theorem d_X5_drop_57 : decode cX5_drop 57 = .ok (.istore_n 2, 1) := by decide +kernel
theorem d_X5_drop_58 : decode cX5_drop 58 = .ok (.iload_n 2, 1) := by decide +kernel
theorem d_X5_drop_59 : decode cX5_drop 59 = .ok (.iconst 5, 1) := by decide +kernel
theorem d_X5_drop_60 : decode cX5_drop 60 = .ok (.if_icmp .ge 44, 3) := by decide +kernel
theorem d_X5_drop_63 : decode cX5_drop 63 = .ok (.aload_n 0, 1) := by decide +kernel
theorem d_X5_drop_64 : decode cX5_drop 64 = .ok (.getfield 9, 3) := by decide +kernel
theorem d_X5_drop_67 : decode cX5_drop 67 = .ok (.iload_n 2, 1) := by decide +kernel
theorem d_X5_drop_68 : decode cX5_drop 68 = .ok (.aload_n 0, 1) := by decide +kernel
theorem d_X5_drop_69 : decode cX5_drop 69 = .ok (.getfield 9, 3) := by decide +kernel
theorem d_X5_drop_72 : decode cX5_drop 72 = .ok (.iload_n 2, 1) := by decide +kernel
theorem d_X5_drop_73 : decode cX5_drop 73 = .ok (.iconst 1, 1) := by decide +kernel
theorem d_X5_drop_74 : decode cX5_drop 74 = .ok (.iadd, 1) := by decide +kernel
theorem d_X5_drop_75 : decode cX5_drop 75 = .ok (.baload, 1) := by decide +kernel
theorem d_X5_drop_76 : decode cX5_drop 76 = .ok (.bastore, 1) := by decide +kernel
theorem d_X5_drop_77 : decode cX5_drop 77 = .ok (.aload_n 0, 1) := by decide +kernel
theorem d_X5_drop_78 : decode cX5_drop 78 = .ok (.getfield 20, 3) := by decide +kernel
theorem d_X5_drop_81 : decode cX5_drop 81 = .ok (.iload_n 2, 1) := by decide +kernel
theorem d_X5_drop_82 : decode cX5_drop 82 = .ok (.iconst 1, 1) := by decide +kernel
theorem d_X5_drop_83 : decode cX5_drop 83 = .ok (.iadd, 1) := by decide +kernel
theorem d_X5_drop_84 : decode cX5_drop 84 = .ok (.aaload, 1) := by decide +kernel
theorem d_X5_drop_85 : decode cX5_drop 85 = .ok (.iconst 0, 1) := by decide +kernel
theorem d_X5_drop_86 : decode cX5_drop 86 = .ok (.aload_n 0, 1) := by decide +kernel
theorem d_X5_drop_87 : decode cX5_drop 87 = .ok (.getfield 20, 3) := by decide +kernel
theorem d_X5_drop_90 : decode cX5_drop 90 = .ok (.iload_n 2, 1) := by decide +kernel
theorem d_X5_drop_91 : decode cX5_drop 91 = .ok (.aaload, 1) := by decide +kernel
theorem d_X5_drop_92 : decode cX5_drop 92 = .ok (.iconst 0, 1) := by decide +kernel
theorem d_X5_drop_93 : decode cX5_drop 93 = .ok (.bipush 6, 2) := by decide +kernel
theorem d_X5_drop_95 : decode cX5_drop 95 = .ok (.invokestatic 39, 3) := by decide +kernel
theorem d_X5_drop_98 : decode cX5_drop 98 = .ok (.iinc 2 1, 3) := by decide +kernel
theorem d_X5_drop_101 : decode cX5_drop 101 = .ok (.goto (-43), 3) := by decide +kernel
theorem d_X5_drop_104 : decode cX5_drop 104 = .ok (.aload_n 0, 1) := by decide +kernel
theorem d_X5_drop_105 : decode cX5_drop 105 = .ok (.getfield 9, 3) := by decide +kernel
theorem d_X5_drop_108 : decode cX5_drop 108 = .ok (.iconst 5, 1) := by decide +kernel
theorem d_X5_drop_109 : decode cX5_drop 109 = .ok (.iconst 0, 1) := by decide +kernel
theorem d_X5_drop_110 : decode cX5_drop 110 = .ok (.bastore, 1) := by decide +kernel
theorem d_X5_drop_111 : decode cX5_drop 111 = .ok (.aload_n 0, 1) := by decide +kernel
theorem d_X5_drop_112 : decode cX5_drop 112 = .ok (.getfield 20, 3) := by decide +kernel
theorem d_X5_drop_115 : decode cX5_drop 115 = .ok (.iconst 5, 1) := by decide +kernel
theorem d_X5_drop_116 : decode cX5_drop 116 = .ok (.aaload, 1) := by decide +kernel
theorem d_X5_drop_117 : decode cX5_drop 117 = .ok (.iconst 0, 1) := by decide +kernel
theorem d_X5_drop_118 : decode cX5_drop 118 = .ok (.invokestatic 33, 3) := by decide +kernel
theorem d_X5_drop_121 : decode cX5_drop 121 = .ok (.aload_n 0, 1) := by decide +kernel
theorem d_X5_drop_122 : decode cX5_drop 122 = .ok (.dup, 1) := by decide +kernel
theorem d_X5_drop_123 : decode cX5_drop 123 = .ok (.getfield 29, 3) := by decide +kernel
theorem d_X5_drop_126 : decode cX5_drop 126 = .ok (.iconst 1, 1) := by decide +kernel
theorem d_X5_drop_127 : decode cX5_drop 127 = .ok (.isub, 1) := by decide +kernel
theorem d_X5_drop_128 : decode cX5_drop 128 = .ok (.putfield 29, 3) := by decide +kernel
theorem d_X5_drop_131 : decode cX5_drop 131 = .ok (.return_, 1) := by decide +kernel
theorem b_X5_drop_0 {X : cX} {d : Nat} {μ : mM} {K : Option Value → mM → Prop} {r0 : Nat} {l1 : Int32} (w5_r0 : WF5 μ r0) (hc_has : Ct X (Rm d) mX5_has [.ref r0, .int l1] μ (fun r μ2 => G X (Rm (d + 1)) mX5_drop 5 [(0, .ref r0), (1, .int l1)] (r.toList ++ []) μ2 0 0 K)) : G X (Rm (d + 1)) mX5_drop 0 [(0, .ref r0), (1, .int l1)] [] μ 0 0 K := by
  refine G_aload_n d_X5_drop_0 rfl 0 rfl ?_
  refine G_iload_n d_X5_drop_1 rfl 1 rfl ?_
  refine G_callV (M' := mX5_has) (R' := (Rm d)) (S := []) [.int l1] 5 (w5_kd w5_r0) cok5 rfl ok_X5_has ml_X5_45 pn_X5_has (ru_Rm (by decide)) (Nat.le_of_ble_eq_true rfl) d_X5_drop_2 ?_
  exact hc_has
theorem b_X5_drop_5 {X : cX} {d : Nat} {μ : mM} {K : Option Value → mM → Prop} {r0 : Nat} {l1 : Int32} {v0 : Int32} (h : ¬ v0 = 0 → G X (Rm (d + 1)) mX5_drop 11 [(0, .ref r0), (1, .int l1), (2, .int 0)] [] μ 0 0 K) (hK : v0 = 0 → K none μ) : G X (Rm (d + 1)) mX5_drop 5 [(0, .ref r0), (1, .int l1)] [.int v0] μ 0 0 K := by
  refine G_if_ne (tgt := 9) d_X5_drop_5 rfl (fun c0 => ?_) (fun c0 => ?_)
  ·
    refine G_iconst d_X5_drop_9 ic_0 ?_
    refine G_istore_n (L' := [(2, .int 0), (0, .ref r0), (1, .int l1)]) d_X5_drop_10 rfl (by decide) rfl ?_
    refine G_sub (L' := [(0, .ref r0), (1, .int l1), (2, .int 0)]) [1, 2, 0] rfl ?_
    exact (h c0)
  ·
    exact G_vret rfl rfl rfl d_X5_drop_8 (hK c0)
theorem b_X5_drop_11 {X : cX} {d : Nat} {μ : mM} {K : Option Value → mM → Prop} {r0 : Nat} {l1 : Int32} {i2 : Nat} (h : (3 : Int32) ≤ (nI i2) → G X (Rm (d + 1)) mX5_drop 34 [(0, .ref r0), (1, .int l1), (2, .int 0)] [] μ 0 0 K) (w5_r0 : WF5 μ r0) (hb : ¬ (3 : Int32) ≤ (nI i2) → i2 < 3) (hc_closeGap : ¬ (3 : Int32) ≤ (nI i2) → Ct X (Rm d) mX5_closeGap [.ref (r0 + 3 + i2), .int l1] μ (fun r μ2 => G X (Rm (d + 1)) mX5_drop 26 [(0, .ref r0), (1, .int l1), (2, .int (nI i2))] (r.toList ++ []) μ2 0 0 K)) : G X (Rm (d + 1)) mX5_drop 11 [(0, .ref r0), (1, .int l1), (2, .int (nI i2))] [] μ 0 0 K := by
  refine G_iload_n d_X5_drop_11 rfl 2 rfl ?_
  refine G_iconst d_X5_drop_12 ic_3 ?_
  refine G_icmp_ge (tgt := 32) d_X5_drop_13 rfl (fun c0 => ?_) (fun c0 => ?_)
  ·
    refine G_iconst d_X5_drop_32 ic_0 ?_
    refine G_istore_n (L' := [(2, .int 0), (0, .ref r0), (1, .int l1)]) d_X5_drop_33 rfl (by decide) rfl ?_
    refine G_sub (L' := [(0, .ref r0), (1, .int l1), (2, .int 0)]) [1, 2, 0] rfl ?_
    exact (h c0)
  ·
    refine G_aload_n d_X5_drop_16 rfl 0 rfl ?_
    refine G_getR (r := r0 + 2) 5 2 (w5_kd w5_r0) (w5_f2 w5_r0) cok5 (by decide) rfl fl_X5_17 d_X5_drop_17 ?_
    refine G_iload_n d_X5_drop_20 rfl 2 rfl ?_
    refine G_aaldA (r := r0 + 3 + i2) i2 (w5_k2 w5_r0) rfl (hb c0) (w5_r2 w5_r0 i2 (hb c0)) d_X5_drop_21 ?_
    refine G_iload_n d_X5_drop_22 rfl 1 rfl ?_
    refine G_callS (M' := mX5_closeGap) (R' := (Rm d)) (S := []) [.ref (r0 + 3 + i2), .int l1] ok_X5_closeGap ml_X5_49 pn_X5_closeGap (ru_Rm (by decide)) (Nat.le_of_ble_eq_true rfl) d_X5_drop_23 ?_
    exact (hc_closeGap c0)
theorem b_X5_drop_26 {X : cX} {d : Nat} {μ : mM} {K : Option Value → mM → Prop} {r0 : Nat} {l1 : Int32} {i2 : Nat} (h : G X (Rm (d + 1)) mX5_drop 11 [(0, .ref r0), (1, .int l1), (2, .int (nI (i2 + 1)))] [] μ 0 0 K) : G X (Rm (d + 1)) mX5_drop 26 [(0, .ref r0), (1, .int l1), (2, .int (nI i2))] [] μ 0 0 K := by
  refine G_iinc (L' := [(2, .int (nI (i2 + 1))), (0, .ref r0), (1, .int l1)]) d_X5_drop_26 2 rfl (inc1 i2) (by decide) rfl ?_
  refine G_goto (tgt := 11) d_X5_drop_29 rfl ?_
  refine G_sub (L' := [(0, .ref r0), (1, .int l1), (2, .int (nI (i2 + 1)))]) [1, 2, 0] rfl ?_
  exact h
theorem b_X5_drop_34 {X : cX} {d : Nat} {μ : mM} {K : Option Value → mM → Prop} {r0 : Nat} {l1 : Int32} {i2 : Nat} (h : (6 : Int32) ≤ (nI i2) → G X (Rm (d + 1)) mX5_drop 58 [(0, .ref r0), (2, .int l1)] [] μ 0 0 K) (w5_r0 : WF5 μ r0) (hb : ¬ (6 : Int32) ≤ (nI i2) → i2 < 6) (hc_closeGap : ¬ (6 : Int32) ≤ (nI i2) → Ct X (Rm d) mX5_closeGap [.ref (r0 + 7 + i2), .int l1] μ (fun r μ2 => G X (Rm (d + 1)) mX5_drop 50 [(0, .ref r0), (1, .int l1), (2, .int (nI i2))] (r.toList ++ []) μ2 0 0 K)) : G X (Rm (d + 1)) mX5_drop 34 [(0, .ref r0), (1, .int l1), (2, .int (nI i2))] [] μ 0 0 K := by
  refine G_iload_n d_X5_drop_34 rfl 2 rfl ?_
  refine G_bipush d_X5_drop_35 bp_6 ?_
  refine G_icmp_ge (tgt := 56) d_X5_drop_37 rfl (fun c0 => ?_) (fun c0 => ?_)
  ·
    refine G_iload_n d_X5_drop_56 rfl 1 rfl ?_
    refine G_istore_n (L' := [(2, .int l1), (0, .ref r0), (1, .int l1)]) d_X5_drop_57 rfl (by decide) rfl ?_
    refine G_sub (L' := [(0, .ref r0), (2, .int l1)]) [1, 0] rfl ?_
    exact (h c0)
  ·
    refine G_aload_n d_X5_drop_40 rfl 0 rfl ?_
    refine G_getR (r := r0 + 6) 5 3 (w5_kd w5_r0) (w5_f3 w5_r0) cok5 (by decide) rfl fl_X5_20 d_X5_drop_41 ?_
    refine G_iload_n d_X5_drop_44 rfl 2 rfl ?_
    refine G_aaldA (r := r0 + 7 + i2) i2 (w5_k3 w5_r0) rfl (hb c0) (w5_r3 w5_r0 i2 (hb c0)) d_X5_drop_45 ?_
    refine G_iload_n d_X5_drop_46 rfl 1 rfl ?_
    refine G_callS (M' := mX5_closeGap) (R' := (Rm d)) (S := []) [.ref (r0 + 7 + i2), .int l1] ok_X5_closeGap ml_X5_49 pn_X5_closeGap (ru_Rm (by decide)) (Nat.le_of_ble_eq_true rfl) d_X5_drop_47 ?_
    exact (hc_closeGap c0)
theorem b_X5_drop_50 {X : cX} {d : Nat} {μ : mM} {K : Option Value → mM → Prop} {r0 : Nat} {l1 : Int32} {i2 : Nat} (h : G X (Rm (d + 1)) mX5_drop 34 [(0, .ref r0), (1, .int l1), (2, .int (nI (i2 + 1)))] [] μ 0 0 K) : G X (Rm (d + 1)) mX5_drop 50 [(0, .ref r0), (1, .int l1), (2, .int (nI i2))] [] μ 0 0 K := by
  refine G_iinc (L' := [(2, .int (nI (i2 + 1))), (0, .ref r0), (1, .int l1)]) d_X5_drop_50 2 rfl (inc1 i2) (by decide) rfl ?_
  refine G_goto (tgt := 34) d_X5_drop_53 rfl ?_
  refine G_sub (L' := [(0, .ref r0), (1, .int l1), (2, .int (nI (i2 + 1)))]) [1, 2, 0] rfl ?_
  exact h
theorem b_X5_drop_58 {X : cX} {d : Nat} {μ : mM} {K : Option Value → mM → Prop} {r0 : Nat} {i2 : Nat} (w5_r0 : WF5 μ r0) (hc_fill : (5 : Int32) ≤ (nI i2) → Ct X (Rm d) mJ7_fill_53178 [.ref (r0 + 7 + 5), .int 0] (wi μ (r0 + 1) 5 0) (fun r μ2 => G X (Rm (d + 1)) mX5_drop 121 [(0, .ref r0)] (r.toList ++ []) μ2 0 0 K)) (hb : ¬ (5 : Int32) ≤ (nI i2) → (i2 + 1) < 6) (hb_2 : ¬ (5 : Int32) ≤ (nI i2) → i2 < 6) (hz : ¬ (5 : Int32) ≤ (nI i2) → iv μ (r0 + 1) (i2 + 1) = 0 ∨ iv μ (r0 + 1) (i2 + 1) = 1) (h : ¬ (5 : Int32) ≤ (nI i2) → G X (Rm (d + 1)) mX5_drop 58 [(0, .ref r0), (2, .int (nI (i2 + 1)))] [] (cpI (wi μ (r0 + 1) i2 (iv μ (r0 + 1) (i2 + 1))) (r0 + 7 + (i2 + 1)) 0 (r0 + 7 + i2) 0 6) 0 0 K) : G X (Rm (d + 1)) mX5_drop 58 [(0, .ref r0), (2, .int (nI i2))] [] μ 0 0 K := by
  refine G_iload_n d_X5_drop_58 rfl 1 rfl ?_
  refine G_iconst d_X5_drop_59 ic_5 ?_
  refine G_icmp_ge (tgt := 104) d_X5_drop_60 rfl (fun c0 => ?_) (fun c0 => ?_)
  ·
    refine G_aload_n d_X5_drop_104 rfl 0 rfl ?_
    refine G_getR (r := r0 + 1) 5 1 (w5_kd w5_r0) (w5_f1 w5_r0) cok5 (by decide) rfl fl_X5_9 d_X5_drop_105 ?_
    refine G_iconst d_X5_drop_108 ic_5 ?_
    refine G_iconst d_X5_drop_109 ic_0 ?_
    refine G_zast (v := 0) 5 (w5_k1 w5_r0) rfl (by decide) rfl d_X5_drop_110 ?_
    refine G_aload_n d_X5_drop_111 rfl 0 rfl ?_
    refine G_getR (r := r0 + 6) 5 3 (w5_kd w5_r0) (w5_f3 w5_r0) cok5 (by decide) rfl fl_X5_20 d_X5_drop_112 ?_
    refine G_iconst d_X5_drop_115 ic_5 ?_
    refine G_aaldA (r := r0 + 7 + 5) 5 (w5_k3 w5_r0) rfl (by decide) (w5_r3 w5_r0 5 (by decide)) d_X5_drop_116 ?_
    refine G_iconst d_X5_drop_117 ic_0 ?_
    refine G_sub (L' := [(0, .ref r0)]) [0] rfl ?_
    refine G_callS (M' := mJ7_fill_53178) (R' := (Rm d)) (S := []) [.ref (r0 + 7 + 5), .int 0] ok_J7_fill_53178 ml_X5_33 pn_J7_fill_53178 (ru_Rm (by decide)) (Nat.le_of_ble_eq_true rfl) d_X5_drop_118 ?_
    exact (hc_fill c0)
  ·
    refine G_aload_n d_X5_drop_63 rfl 0 rfl ?_
    refine G_getR (r := r0 + 1) 5 1 (w5_kd w5_r0) (w5_f1 w5_r0) cok5 (by decide) rfl fl_X5_9 d_X5_drop_64 ?_
    refine G_iload_n d_X5_drop_67 rfl 1 rfl ?_
    refine G_aload_n d_X5_drop_68 rfl 0 rfl ?_
    refine G_getR (r := r0 + 1) 5 1 (w5_kd w5_r0) (w5_f1 w5_r0) cok5 (by decide) rfl fl_X5_9 d_X5_drop_69 ?_
    refine G_iload_n d_X5_drop_72 rfl 1 rfl ?_
    refine G_iconst d_X5_drop_73 ic_1 ?_
    refine G_iadd d_X5_drop_74 ?_
    refine G_zald (i2 + 1) (w5_k1 w5_r0) (nadd rfl rfl) (hb c0) d_X5_drop_75 ?_
    refine G_zast (v := iv μ (r0 + 1) (i2 + 1)) i2 (w5_k1 w5_r0) rfl (hb_2 c0) (vpn_b (hz c0)) d_X5_drop_76 ?_
    refine G_aload_n d_X5_drop_77 rfl 0 rfl ?_
    refine G_getR (r := r0 + 6) 5 3 (w5_kd w5_r0) (w5_f3 w5_r0) cok5 (by decide) rfl fl_X5_20 d_X5_drop_78 ?_
    refine G_iload_n d_X5_drop_81 rfl 1 rfl ?_
    refine G_iconst d_X5_drop_82 ic_1 ?_
    refine G_iadd d_X5_drop_83 ?_
    refine G_aaldA (r := r0 + 7 + (i2 + 1)) (i2 + 1) (w5_k3 w5_r0) (nadd rfl rfl) (hb c0) (w5_r3 w5_r0 (i2 + 1) (hb c0)) d_X5_drop_84 ?_
    refine G_iconst d_X5_drop_85 ic_0 ?_
    refine G_aload_n d_X5_drop_86 rfl 0 rfl ?_
    refine G_getR (r := r0 + 6) 5 3 (w5_kd w5_r0) (w5_f3 w5_r0) cok5 (by decide) rfl fl_X5_20 d_X5_drop_87 ?_
    refine G_iload_n d_X5_drop_90 rfl 1 rfl ?_
    refine G_aaldA (r := r0 + 7 + i2) i2 (w5_k3 w5_r0) rfl (hb_2 c0) (w5_r3 w5_r0 i2 (hb_2 c0)) d_X5_drop_91 ?_
    refine G_iconst d_X5_drop_92 ic_0 ?_
    refine G_bipush d_X5_drop_93 bp_6 ?_
    refine G_copy (sp := 0) (dp := 0) (n := 6) (w5_q3 w5_r0 (i2 + 1) (hb c0)) (w5_q3 w5_r0 i2 (hb_2 c0)) rfl rfl rfl (by decide) (by decide) ml_X5_39 rb_Rm (Nat.le_of_ble_eq_true rfl) d_X5_drop_95 ?_
    refine G_iinc (L' := [(2, .int (nI (i2 + 1))), (0, .ref r0)]) d_X5_drop_98 1 rfl (inc1 i2) (by decide) rfl ?_
    refine G_goto (tgt := 58) d_X5_drop_101 rfl ?_
    refine G_sub (L' := [(0, .ref r0), (2, .int (nI (i2 + 1)))]) [1, 0] rfl ?_
    exact (h c0)
theorem b_X5_drop_121 {X : cX} {d : Nat} {μ : mM} {K : Option Value → mM → Prop} {r0 : Nat} (w5_r0 : WF5 μ r0) (hK : K none (wi μ r0 0 ((iv μ r0 0) - 1))) : G X (Rm (d + 1)) mX5_drop 121 [(0, .ref r0)] [] μ 0 0 K := by
  refine G_aload_n d_X5_drop_121 rfl 0 rfl ?_
  refine G_dup d_X5_drop_122 rfl ?_
  refine G_getI 5 0 (w5_kd w5_r0) cok5 (by decide) rfl fl_X5_29 d_X5_drop_123 ?_
  refine G_iconst d_X5_drop_126 ic_1 ?_
  refine G_isub d_X5_drop_127 ?_
  refine G_putI 5 0 (w5_kd w5_r0) rfl rfl cok5 (by decide) rfl (Or.inl rfl) fl_X5_29 d_X5_drop_128 ?_
  exact G_vret rfl rfl rfl d_X5_drop_131 hK
theorem d_X5_closeGap_0 : decode cX5_closeGap 0 = .ok (.aload_n 0, 1) := by decide +kernel
theorem d_X5_closeGap_1 : decode cX5_closeGap 1 = .ok (.iload_n 1, 1) := by decide +kernel
theorem d_X5_closeGap_2 : decode cX5_closeGap 2 = .ok (.iconst 1, 1) := by decide +kernel
theorem d_X5_closeGap_3 : decode cX5_closeGap 3 = .ok (.iadd, 1) := by decide +kernel
theorem d_X5_closeGap_4 : decode cX5_closeGap 4 = .ok (.aload_n 0, 1) := by decide +kernel
theorem d_X5_closeGap_5 : decode cX5_closeGap 5 = .ok (.iload_n 1, 1) := by decide +kernel
theorem d_X5_closeGap_6 : decode cX5_closeGap 6 = .ok (.iconst 5, 1) := by decide +kernel
theorem d_X5_closeGap_7 : decode cX5_closeGap 7 = .ok (.iload_n 1, 1) := by decide +kernel
theorem d_X5_closeGap_8 : decode cX5_closeGap 8 = .ok (.isub, 1) := by decide +kernel
theorem d_X5_closeGap_9 : decode cX5_closeGap 9 = .ok (.invokestatic 39, 3) := by decide +kernel
theorem d_X5_closeGap_12 : decode cX5_closeGap 12 = .ok (.aload_n 0, 1) := by decide +kernel
theorem d_X5_closeGap_13 : decode cX5_closeGap 13 = .ok (.iconst 5, 1) := by decide +kernel
theorem d_X5_closeGap_14 : decode cX5_closeGap 14 = .ok (.iconst 0, 1) := by decide +kernel
theorem d_X5_closeGap_15 : decode cX5_closeGap 15 = .ok (.iastore, 1) := by decide +kernel
theorem d_X5_closeGap_16 : decode cX5_closeGap 16 = .ok (.return_, 1) := by decide +kernel
theorem b_X5_closeGap_0 {X : cX} {d : Nat} {μ : mM} {K : Option Value → mM → Prop} {r0 : Nat} {i1 : Nat} {n0 : Nat} {j0 : Nat} (hk_r0 : kd μ r0 = (1, n0)) (hi_j0 : 5 - (nI i1) = nI j0) (hc : (i1 + 1) + j0 ≤ n0) (hc_2 : i1 + j0 ≤ n0) (hb : 5 < n0) (hK : K none (wi (cpI μ r0 (i1 + 1) r0 i1 j0) r0 5 0)) : G X (Rm (d + 1)) mX5_closeGap 0 [(0, .ref r0), (1, .int (nI i1))] [] μ 0 0 K := by
  refine G_aload_n d_X5_closeGap_0 rfl 0 rfl ?_
  refine G_iload_n d_X5_closeGap_1 rfl 1 rfl ?_
  refine G_iconst d_X5_closeGap_2 ic_1 ?_
  refine G_iadd d_X5_closeGap_3 ?_
  refine G_aload_n d_X5_closeGap_4 rfl 0 rfl ?_
  refine G_iload_n d_X5_closeGap_5 rfl 1 rfl ?_
  refine G_iconst d_X5_closeGap_6 ic_5 ?_
  refine G_iload_n d_X5_closeGap_7 rfl 1 rfl ?_
  refine G_isub d_X5_closeGap_8 ?_
  refine G_copy (sp := (i1 + 1)) (dp := i1) (n := j0) hk_r0 hk_r0 (nadd rfl rfl) rfl hi_j0 hc hc_2 ml_X5_39 rb_Rm (Nat.le_of_ble_eq_true rfl) d_X5_closeGap_9 ?_
  refine G_aload_n d_X5_closeGap_12 rfl 0 rfl ?_
  refine G_iconst d_X5_closeGap_13 ic_5 ?_
  refine G_iconst d_X5_closeGap_14 ic_0 ?_
  refine G_iast 5 hk_r0 rfl hb d_X5_closeGap_15 ?_
  exact G_vret rfl rfl rfl d_X5_closeGap_16 hK
theorem d_X5_sameness_0 : decode cX5_sameness 0 = .ok (.iload_n 1, 1) := by decide +kernel
theorem d_X5_sameness_1 : decode cX5_sameness 1 = .ok (.iload_n 2, 1) := by decide +kernel
theorem d_X5_sameness_2 : decode cX5_sameness 2 = .ok (.if_icmp .eq 5, 3) := by decide +kernel
theorem d_X5_sameness_5 : decode cX5_sameness 5 = .ok (.iconst 0, 1) := by decide +kernel
theorem d_X5_sameness_6 : decode cX5_sameness 6 = .ok (.ireturn, 1) := by decide +kernel
theorem d_X5_sameness_7 : decode cX5_sameness 7 = .ok (.aload_n 0, 1) := by decide +kernel
theorem d_X5_sameness_8 : decode cX5_sameness 8 = .ok (.getfield 9, 3) := by decide +kernel
theorem d_X5_sameness_11 : decode cX5_sameness 11 = .ok (.iload_n 1, 1) := by decide +kernel
theorem d_X5_sameness_12 : decode cX5_sameness 12 = .ok (.baload, 1) := by decide +kernel
theorem d_X5_sameness_13 : decode cX5_sameness 13 = .ok (.ifCond .eq 7, 3) := by decide +kernel
theorem d_X5_sameness_16 : decode cX5_sameness 16 = .ok (.iconst 1, 1) := by decide +kernel
theorem d_X5_sameness_17 : decode cX5_sameness 17 = .ok (.goto 4, 3) := by decide +kernel
theorem d_X5_sameness_20 : decode cX5_sameness 20 = .ok (.iconst 2, 1) := by decide +kernel
theorem d_X5_sameness_21 : decode cX5_sameness 21 = .ok (.ireturn, 1) := by decide +kernel
theorem b_X5_sameness_0 {X : cX} {d : Nat} {μ : mM} {K : Option Value → mM → Prop} {r0 : Nat} {i1 : Nat} {l2 : Int32} (w5_r0 : WF5 μ r0) (hb : (nI i1) = l2 → i1 < 6) (hK : (nI i1) = l2 → (iv μ (r0 + 1) i1) = 0 → K (some (.int 2)) μ) (hK_2 : (nI i1) = l2 → ¬ (iv μ (r0 + 1) i1) = 0 → K (some (.int 1)) μ) (hK_3 : ¬ (nI i1) = l2 → K (some (.int 0)) μ) : G X (Rm d) mX5_sameness 0 [(0, .ref r0), (1, .int (nI i1)), (2, .int l2)] [] μ 0 0 K := by
  refine G_iload_n d_X5_sameness_0 rfl 1 rfl ?_
  refine G_iload_n d_X5_sameness_1 rfl 2 rfl ?_
  refine G_icmp_eq (tgt := 7) d_X5_sameness_2 rfl (fun c0 => ?_) (fun c0 => ?_)
  ·
    refine G_aload_n d_X5_sameness_7 rfl 0 rfl ?_
    refine G_getR (r := r0 + 1) 5 1 (w5_kd w5_r0) (w5_f1 w5_r0) cok5 (by decide) rfl fl_X5_9 d_X5_sameness_8 ?_
    refine G_iload_n d_X5_sameness_11 rfl 1 rfl ?_
    refine G_zald i1 (w5_k1 w5_r0) rfl (hb c0) d_X5_sameness_12 ?_
    refine G_if_eq (tgt := 20) d_X5_sameness_13 rfl (fun c1 => ?_) (fun c1 => ?_)
    ·
      refine G_iconst d_X5_sameness_20 ic_2 ?_
      exact G_iret rfl rfl rfl d_X5_sameness_21 (hK c0 c1)
    ·
      refine G_iconst d_X5_sameness_16 ic_1 ?_
      refine G_goto (tgt := 21) d_X5_sameness_17 rfl ?_
      exact G_iret rfl rfl rfl d_X5_sameness_21 (hK_2 c0 c1)
  ·
    refine G_iconst d_X5_sameness_5 ic_0 ?_
    exact G_iret rfl rfl rfl d_X5_sameness_6 (hK_3 c0)
theorem d_X5_holding_0 : decode cX5_holding 0 = .ok (.iconst 0, 1) := by decide +kernel
theorem d_X5_holding_1 : decode cX5_holding 1 = .ok (.istore_n 2, 1) := by decide +kernel
theorem d_X5_holding_2 : decode cX5_holding 2 = .ok (.iconst 0, 1) := by decide +kernel
theorem d_X5_holding_3 : decode cX5_holding 3 = .ok (.istore_n 3, 1) := by decide +kernel
theorem d_X5_holding_4 : decode cX5_holding 4 = .ok (.iload_n 3, 1) := by decide +kernel
theorem d_X5_holding_5 : decode cX5_holding 5 = .ok (.aload_n 0, 1) := by decide +kernel
theorem d_X5_holding_6 : decode cX5_holding 6 = .ok (.getfield 29, 3) := by decide +kernel
theorem d_X5_holding_9 : decode cX5_holding 9 = .ok (.if_icmp .ge 22, 3) := by decide +kernel
theorem d_X5_holding_12 : decode cX5_holding 12 = .ok (.iload_n 2, 1) := by decide +kernel
theorem d_X5_holding_13 : decode cX5_holding 13 = .ok (.aload_n 0, 1) := by decide +kernel
theorem d_X5_holding_14 : decode cX5_holding 14 = .ok (.getfield 17, 3) := by decide +kernel
theorem d_X5_holding_17 : decode cX5_holding 17 = .ok (.iload_n 1, 1) := by decide +kernel
theorem d_X5_holding_18 : decode cX5_holding 18 = .ok (.aaload, 1) := by decide +kernel
theorem d_X5_holding_19 : decode cX5_holding 19 = .ok (.iload_n 3, 1) := by decide +kernel
theorem d_X5_holding_20 : decode cX5_holding 20 = .ok (.iaload, 1) := by decide +kernel
theorem d_X5_holding_21 : decode cX5_holding 21 = .ok (.invokestatic 52, 3) := by decide +kernel
theorem d_X5_holding_24 : decode cX5_holding 24 = .ok (.istore_n 2, 1) := by decide +kernel
theorem d_X5_holding_25 : decode cX5_holding 25 = .ok (.iinc 3 1, 3) := by decide +kernel
theorem d_X5_holding_28 : decode cX5_holding 28 = .ok (.goto (-24), 3) := by decide +kernel
theorem d_X5_holding_31 : decode cX5_holding 31 = .ok (.iload_n 2, 1) := by decide +kernel
theorem d_X5_holding_32 : decode cX5_holding 32 = .ok (.ireturn, 1) := by decide +kernel
theorem b_X5_holding_0 {X : cX} {d : Nat} {μ : mM} {K : Option Value → mM → Prop} {r0 : Nat} {l1 : Int32} (h : G X (Rm (d + 1)) mX5_holding 4 [(0, .ref r0), (1, .int l1), (2, .int 0), (3, .int 0)] [] μ 0 0 K) : G X (Rm (d + 1)) mX5_holding 0 [(0, .ref r0), (1, .int l1)] [] μ 0 0 K := by
  refine G_iconst d_X5_holding_0 ic_0 ?_
  refine G_istore_n (L' := [(2, .int 0), (0, .ref r0), (1, .int l1)]) d_X5_holding_1 rfl (by decide) rfl ?_
  refine G_iconst d_X5_holding_2 ic_0 ?_
  refine G_istore_n (L' := [(3, .int 0), (2, .int 0), (0, .ref r0), (1, .int l1)]) d_X5_holding_3 rfl (by decide) rfl ?_
  refine G_sub (L' := [(0, .ref r0), (1, .int l1), (2, .int 0), (3, .int 0)]) [2, 3, 1, 0] rfl ?_
  exact h
theorem b_X5_holding_4 {X : cX} {d : Nat} {μ : mM} {K : Option Value → mM → Prop} {r0 : Nat} {i1 : Nat} {l2 : Int32} {i3 : Nat} (w5_r0 : WF5 μ r0) (hK : (iv μ r0 0) ≤ (nI i3) → K (some (.int l2)) μ) (hb : ¬ (iv μ r0 0) ≤ (nI i3) → i1 < 3) (hb_2 : ¬ (iv μ r0 0) ≤ (nI i3) → i3 < 6) (h : ¬ (iv μ r0 0) ≤ (nI i3) → G X (Rm (d + 1)) mX5_holding 4 [(0, .ref r0), (1, .int (nI i1)), (2, .int (if l2 < iv μ (r0 + 3 + i1) i3 then iv μ (r0 + 3 + i1) i3 else l2)), (3, .int (nI (i3 + 1)))] [] μ 0 0 K) : G X (Rm (d + 1)) mX5_holding 4 [(0, .ref r0), (1, .int (nI i1)), (2, .int l2), (3, .int (nI i3))] [] μ 0 0 K := by
  refine G_iload_n d_X5_holding_4 rfl 3 rfl ?_
  refine G_aload_n d_X5_holding_5 rfl 0 rfl ?_
  refine G_getI 5 0 (w5_kd w5_r0) cok5 (by decide) rfl fl_X5_29 d_X5_holding_6 ?_
  refine G_icmp_ge (tgt := 31) d_X5_holding_9 rfl (fun c0 => ?_) (fun c0 => ?_)
  ·
    refine G_iload_n d_X5_holding_31 rfl 2 rfl ?_
    exact G_iret rfl rfl rfl d_X5_holding_32 (hK c0)
  ·
    refine G_iload_n d_X5_holding_12 rfl 2 rfl ?_
    refine G_aload_n d_X5_holding_13 rfl 0 rfl ?_
    refine G_getR (r := r0 + 2) 5 2 (w5_kd w5_r0) (w5_f2 w5_r0) cok5 (by decide) rfl fl_X5_17 d_X5_holding_14 ?_
    refine G_iload_n d_X5_holding_17 rfl 1 rfl ?_
    refine G_aaldA (r := r0 + 3 + i1) i1 (w5_k2 w5_r0) rfl (hb c0) (w5_r2 w5_r0 i1 (hb c0)) d_X5_holding_18 ?_
    refine G_iload_n d_X5_holding_19 rfl 3 rfl ?_
    refine G_iald i3 (w5_q2 w5_r0 i1 (hb c0)) rfl (hb_2 c0) d_X5_holding_20 ?_
    refine G_max ml_X5_52 rb_Rm (Nat.le_of_ble_eq_true rfl) d_X5_holding_21 ?_
    refine G_istore_n (L' := [(2, .int (if l2 < iv μ (r0 + 3 + i1) i3 then iv μ (r0 + 3 + i1) i3 else l2)), (0, .ref r0), (1, .int (nI i1)), (3, .int (nI i3))]) d_X5_holding_24 rfl (by decide) rfl ?_
    refine G_iinc (L' := [(3, .int (nI (i3 + 1))), (2, .int (if l2 < iv μ (r0 + 3 + i1) i3 then iv μ (r0 + 3 + i1) i3 else l2)), (0, .ref r0), (1, .int (nI i1))]) d_X5_holding_25 3 rfl (inc1 i3) (by decide) rfl ?_
    refine G_goto (tgt := 4) d_X5_holding_28 rfl ?_
    refine G_sub (L' := [(0, .ref r0), (1, .int (nI i1)), (2, .int (if l2 < iv μ (r0 + 3 + i1) i3 then iv μ (r0 + 3 + i1) i3 else l2)), (3, .int (nI (i3 + 1)))]) [2, 3, 1, 0] rfl ?_
    exact (h c0)
theorem d_X5_manys_0 : decode cX5_manys 0 = .ok (.iconst 0, 1) := by decide +kernel
theorem d_X5_manys_1 : decode cX5_manys 1 = .ok (.istore_n 1, 1) := by decide +kernel
theorem d_X5_manys_2 : decode cX5_manys 2 = .ok (.iconst 0, 1) := by decide +kernel
theorem d_X5_manys_3 : decode cX5_manys 3 = .ok (.istore_n 2, 1) := by decide +kernel
theorem d_X5_manys_4 : decode cX5_manys 4 = .ok (.iload_n 2, 1) := by decide +kernel
theorem d_X5_manys_5 : decode cX5_manys 5 = .ok (.aload_n 0, 1) := by decide +kernel
theorem d_X5_manys_6 : decode cX5_manys 6 = .ok (.getfield 29, 3) := by decide +kernel
theorem d_X5_manys_9 : decode cX5_manys 9 = .ok (.if_icmp .ge 21, 3) := by decide +kernel
theorem d_X5_manys_12 : decode cX5_manys 12 = .ok (.aload_n 0, 1) := by decide +kernel
theorem d_X5_manys_13 : decode cX5_manys 13 = .ok (.getfield 9, 3) := by decide +kernel
theorem d_X5_manys_16 : decode cX5_manys 16 = .ok (.iload_n 2, 1) := by decide +kernel
theorem d_X5_manys_17 : decode cX5_manys 17 = .ok (.baload, 1) := by decide +kernel
theorem d_X5_manys_18 : decode cX5_manys 18 = .ok (.ifCond .eq 6, 3) := by decide +kernel
theorem d_X5_manys_21 : decode cX5_manys 21 = .ok (.iinc 1 1, 3) := by decide +kernel
theorem d_X5_manys_24 : decode cX5_manys 24 = .ok (.iinc 2 1, 3) := by decide +kernel
theorem d_X5_manys_27 : decode cX5_manys 27 = .ok (.goto (-23), 3) := by decide +kernel
theorem d_X5_manys_30 : decode cX5_manys 30 = .ok (.iload_n 1, 1) := by decide +kernel
theorem d_X5_manys_31 : decode cX5_manys 31 = .ok (.ireturn, 1) := by decide +kernel
theorem b_X5_manys_0 {X : cX} {d : Nat} {μ : mM} {K : Option Value → mM → Prop} {r0 : Nat} (h : G X (Rm d) mX5_manys 4 [(0, .ref r0), (1, .int 0), (2, .int 0)] [] μ 0 0 K) : G X (Rm d) mX5_manys 0 [(0, .ref r0)] [] μ 0 0 K := by
  refine G_iconst d_X5_manys_0 ic_0 ?_
  refine G_istore_n (L' := [(1, .int 0), (0, .ref r0)]) d_X5_manys_1 rfl (by decide) rfl ?_
  refine G_iconst d_X5_manys_2 ic_0 ?_
  refine G_istore_n (L' := [(2, .int 0), (1, .int 0), (0, .ref r0)]) d_X5_manys_3 rfl (by decide) rfl ?_
  refine G_sub (L' := [(0, .ref r0), (1, .int 0), (2, .int 0)]) [2, 1, 0] rfl ?_
  exact h
theorem b_X5_manys_4 {X : cX} {d : Nat} {μ : mM} {K : Option Value → mM → Prop} {r0 : Nat} {i1 : Nat} {i2 : Nat} (w5_r0 : WF5 μ r0) (hK : (iv μ r0 0) ≤ (nI i2) → K (some (.int (nI i1))) μ) (hb : ¬ (iv μ r0 0) ≤ (nI i2) → i2 < 6) (h : ¬ (iv μ r0 0) ≤ (nI i2) → (iv μ (r0 + 1) i2) = 0 → G X (Rm d) mX5_manys 24 [(0, .ref r0), (1, .int (nI i1)), (2, .int (nI i2))] [] μ 0 0 K) (h_2 : ¬ (iv μ r0 0) ≤ (nI i2) → ¬ (iv μ (r0 + 1) i2) = 0 → G X (Rm d) mX5_manys 24 [(0, .ref r0), (1, .int (nI (i1 + 1))), (2, .int (nI i2))] [] μ 0 0 K) : G X (Rm d) mX5_manys 4 [(0, .ref r0), (1, .int (nI i1)), (2, .int (nI i2))] [] μ 0 0 K := by
  refine G_iload_n d_X5_manys_4 rfl 2 rfl ?_
  refine G_aload_n d_X5_manys_5 rfl 0 rfl ?_
  refine G_getI 5 0 (w5_kd w5_r0) cok5 (by decide) rfl fl_X5_29 d_X5_manys_6 ?_
  refine G_icmp_ge (tgt := 30) d_X5_manys_9 rfl (fun c0 => ?_) (fun c0 => ?_)
  ·
    refine G_iload_n d_X5_manys_30 rfl 1 rfl ?_
    exact G_iret rfl rfl rfl d_X5_manys_31 (hK c0)
  ·
    refine G_aload_n d_X5_manys_12 rfl 0 rfl ?_
    refine G_getR (r := r0 + 1) 5 1 (w5_kd w5_r0) (w5_f1 w5_r0) cok5 (by decide) rfl fl_X5_9 d_X5_manys_13 ?_
    refine G_iload_n d_X5_manys_16 rfl 2 rfl ?_
    refine G_zald i2 (w5_k1 w5_r0) rfl (hb c0) d_X5_manys_17 ?_
    refine G_if_eq (tgt := 24) d_X5_manys_18 rfl (fun c1 => ?_) (fun c1 => ?_)
    ·
      exact (h c0 c1)
    ·
      refine G_iinc (L' := [(1, .int (nI (i1 + 1))), (0, .ref r0), (2, .int (nI i2))]) d_X5_manys_21 1 rfl (inc1 i1) (by decide) rfl ?_
      refine G_sub (L' := [(0, .ref r0), (1, .int (nI (i1 + 1))), (2, .int (nI i2))]) [1, 0, 2] rfl ?_
      exact (h_2 c0 c1)
theorem b_X5_manys_24 {X : cX} {d : Nat} {μ : mM} {K : Option Value → mM → Prop} {r0 : Nat} {l1 : Int32} {i2 : Nat} (h : G X (Rm d) mX5_manys 4 [(0, .ref r0), (1, .int l1), (2, .int (nI (i2 + 1)))] [] μ 0 0 K) : G X (Rm d) mX5_manys 24 [(0, .ref r0), (1, .int l1), (2, .int (nI i2))] [] μ 0 0 K := by
  refine G_iinc (L' := [(2, .int (nI (i2 + 1))), (0, .ref r0), (1, .int l1)]) d_X5_manys_24 2 rfl (inc1 i2) (by decide) rfl ?_
  refine G_goto (tgt := 4) d_X5_manys_27 rfl ?_
  refine G_sub (L' := [(0, .ref r0), (1, .int l1), (2, .int (nI (i2 + 1)))]) [1, 2, 0] rfl ?_
  exact h
theorem d_X5_atsThatAre_0 : decode cX5_atsThatAre 0 = .ok (.iconst 0, 1) := by decide +kernel
theorem d_X5_atsThatAre_1 : decode cX5_atsThatAre 1 = .ok (.istore_n 2, 1) := by decide +kernel
theorem d_X5_atsThatAre_2 : decode cX5_atsThatAre 2 = .ok (.iconst 0, 1) := by decide +kernel
theorem d_X5_atsThatAre_3 : decode cX5_atsThatAre 3 = .ok (.istore_n 3, 1) := by decide +kernel
theorem d_X5_atsThatAre_4 : decode cX5_atsThatAre 4 = .ok (.iload_n 3, 1) := by decide +kernel
theorem d_X5_atsThatAre_5 : decode cX5_atsThatAre 5 = .ok (.iconst 3, 1) := by decide +kernel
theorem d_X5_atsThatAre_6 : decode cX5_atsThatAre 6 = .ok (.if_icmp .ge 23, 3) := by decide +kernel
theorem d_X5_atsThatAre_9 : decode cX5_atsThatAre 9 = .ok (.iload_n 2, 1) := by decide +kernel
theorem d_X5_atsThatAre_10 : decode cX5_atsThatAre 10 = .ok (.aload_n 0, 1) := by decide +kernel
theorem d_X5_atsThatAre_11 : decode cX5_atsThatAre 11 = .ok (.aload_n 0, 1) := by decide +kernel
theorem d_X5_atsThatAre_12 : decode cX5_atsThatAre 12 = .ok (.getfield 17, 3) := by decide +kernel
theorem d_X5_atsThatAre_15 : decode cX5_atsThatAre 15 = .ok (.iload_n 3, 1) := by decide +kernel
theorem d_X5_atsThatAre_16 : decode cX5_atsThatAre 16 = .ok (.aaload, 1) := by decide +kernel
theorem d_X5_atsThatAre_17 : decode cX5_atsThatAre 17 = .ok (.iload_n 1, 1) := by decide +kernel
theorem d_X5_atsThatAre_18 : decode cX5_atsThatAre 18 = .ok (.invokevirtual 58, 3) := by decide +kernel
theorem d_X5_atsThatAre_21 : decode cX5_atsThatAre 21 = .ok (.iadd, 1) := by decide +kernel
theorem d_X5_atsThatAre_22 : decode cX5_atsThatAre 22 = .ok (.istore_n 2, 1) := by decide +kernel
theorem d_X5_atsThatAre_23 : decode cX5_atsThatAre 23 = .ok (.iinc 3 1, 3) := by decide +kernel
theorem d_X5_atsThatAre_26 : decode cX5_atsThatAre 26 = .ok (.goto (-22), 3) := by decide +kernel
theorem d_X5_atsThatAre_29 : decode cX5_atsThatAre 29 = .ok (.iload_n 2, 1) := by decide +kernel
theorem d_X5_atsThatAre_30 : decode cX5_atsThatAre 30 = .ok (.ireturn, 1) := by decide +kernel
theorem b_X5_atsThatAre_0 {X : cX} {d : Nat} {μ : mM} {K : Option Value → mM → Prop} {r0 : Nat} {l1 : Int32} (h : G X (Rm (d + 1)) mX5_atsThatAre 4 [(0, .ref r0), (1, .int l1), (2, .int 0), (3, .int 0)] [] μ 0 0 K) : G X (Rm (d + 1)) mX5_atsThatAre 0 [(0, .ref r0), (1, .int l1)] [] μ 0 0 K := by
  refine G_iconst d_X5_atsThatAre_0 ic_0 ?_
  refine G_istore_n (L' := [(2, .int 0), (0, .ref r0), (1, .int l1)]) d_X5_atsThatAre_1 rfl (by decide) rfl ?_
  refine G_iconst d_X5_atsThatAre_2 ic_0 ?_
  refine G_istore_n (L' := [(3, .int 0), (2, .int 0), (0, .ref r0), (1, .int l1)]) d_X5_atsThatAre_3 rfl (by decide) rfl ?_
  refine G_sub (L' := [(0, .ref r0), (1, .int l1), (2, .int 0), (3, .int 0)]) [2, 3, 1, 0] rfl ?_
  exact h
theorem b_X5_atsThatAre_4 {X : cX} {d : Nat} {μ : mM} {K : Option Value → mM → Prop} {r0 : Nat} {l1 : Int32} {l2 : Int32} {i3 : Nat} (hK : (3 : Int32) ≤ (nI i3) → K (some (.int l2)) μ) (w5_r0 : WF5 μ r0) (hb : ¬ (3 : Int32) ≤ (nI i3) → i3 < 3) (hc_cellsThatAre : ¬ (3 : Int32) ≤ (nI i3) → Ct X (Rm d) mX5_cellsThatAre [.ref r0, .ref (r0 + 3 + i3), .int l1] μ (fun r μ2 => G X (Rm (d + 1)) mX5_atsThatAre 21 [(0, .ref r0), (1, .int l1), (3, .int (nI i3))] (r.toList ++ [.int l2]) μ2 0 0 K)) : G X (Rm (d + 1)) mX5_atsThatAre 4 [(0, .ref r0), (1, .int l1), (2, .int l2), (3, .int (nI i3))] [] μ 0 0 K := by
  refine G_iload_n d_X5_atsThatAre_4 rfl 3 rfl ?_
  refine G_iconst d_X5_atsThatAre_5 ic_3 ?_
  refine G_icmp_ge (tgt := 29) d_X5_atsThatAre_6 rfl (fun c0 => ?_) (fun c0 => ?_)
  ·
    refine G_iload_n d_X5_atsThatAre_29 rfl 2 rfl ?_
    exact G_iret rfl rfl rfl d_X5_atsThatAre_30 (hK c0)
  ·
    refine G_iload_n d_X5_atsThatAre_9 rfl 2 rfl ?_
    refine G_aload_n d_X5_atsThatAre_10 rfl 0 rfl ?_
    refine G_aload_n d_X5_atsThatAre_11 rfl 0 rfl ?_
    refine G_getR (r := r0 + 2) 5 2 (w5_kd w5_r0) (w5_f2 w5_r0) cok5 (by decide) rfl fl_X5_17 d_X5_atsThatAre_12 ?_
    refine G_iload_n d_X5_atsThatAre_15 rfl 3 rfl ?_
    refine G_aaldA (r := r0 + 3 + i3) i3 (w5_k2 w5_r0) rfl (hb c0) (w5_r2 w5_r0 i3 (hb c0)) d_X5_atsThatAre_16 ?_
    refine G_iload_n d_X5_atsThatAre_17 rfl 1 rfl ?_
    refine G_sub (L' := [(0, .ref r0), (1, .int l1), (3, .int (nI i3))]) [0, 1, 3] rfl ?_
    refine G_callV (M' := mX5_cellsThatAre) (R' := (Rm d)) (S := [.int l2]) [.ref (r0 + 3 + i3), .int l1] 5 (w5_kd w5_r0) cok5 rfl ok_X5_cellsThatAre ml_X5_58 pn_X5_cellsThatAre (ru_Rm (by decide)) (Nat.le_of_ble_eq_true rfl) d_X5_atsThatAre_18 ?_
    exact (hc_cellsThatAre c0)
theorem b_X5_atsThatAre_21 {X : cX} {d : Nat} {μ : mM} {K : Option Value → mM → Prop} {r0 : Nat} {l1 : Int32} {i3 : Nat} {v0 : Int32} {v1 : Int32} (h : G X (Rm (d + 1)) mX5_atsThatAre 4 [(0, .ref r0), (1, .int l1), (2, .int (v0 + v1)), (3, .int (nI (i3 + 1)))] [] μ 0 0 K) : G X (Rm (d + 1)) mX5_atsThatAre 21 [(0, .ref r0), (1, .int l1), (3, .int (nI i3))] [.int v1, .int v0] μ 0 0 K := by
  refine G_iadd d_X5_atsThatAre_21 ?_
  refine G_istore_n (L' := [(2, .int (v0 + v1)), (0, .ref r0), (1, .int l1), (3, .int (nI i3))]) d_X5_atsThatAre_22 rfl (by decide) rfl ?_
  refine G_iinc (L' := [(3, .int (nI (i3 + 1))), (2, .int (v0 + v1)), (0, .ref r0), (1, .int l1)]) d_X5_atsThatAre_23 3 rfl (inc1 i3) (by decide) rfl ?_
  refine G_goto (tgt := 4) d_X5_atsThatAre_26 rfl ?_
  refine G_sub (L' := [(0, .ref r0), (1, .int l1), (2, .int (v0 + v1)), (3, .int (nI (i3 + 1)))]) [2, 3, 1, 0] rfl ?_
  exact h
theorem d_X5_nextsThatAre_0 : decode cX5_nextsThatAre 0 = .ok (.iconst 0, 1) := by decide +kernel
theorem d_X5_nextsThatAre_1 : decode cX5_nextsThatAre 1 = .ok (.istore_n 2, 1) := by decide +kernel
theorem d_X5_nextsThatAre_2 : decode cX5_nextsThatAre 2 = .ok (.iconst 0, 1) := by decide +kernel
theorem d_X5_nextsThatAre_3 : decode cX5_nextsThatAre 3 = .ok (.istore_n 3, 1) := by decide +kernel
theorem d_X5_nextsThatAre_4 : decode cX5_nextsThatAre 4 = .ok (.iload_n 3, 1) := by decide +kernel
theorem d_X5_nextsThatAre_5 : decode cX5_nextsThatAre 5 = .ok (.aload_n 0, 1) := by decide +kernel
theorem d_X5_nextsThatAre_6 : decode cX5_nextsThatAre 6 = .ok (.getfield 29, 3) := by decide +kernel
theorem d_X5_nextsThatAre_9 : decode cX5_nextsThatAre 9 = .ok (.if_icmp .ge 23, 3) := by decide +kernel
theorem d_X5_nextsThatAre_12 : decode cX5_nextsThatAre 12 = .ok (.iload_n 2, 1) := by decide +kernel
theorem d_X5_nextsThatAre_13 : decode cX5_nextsThatAre 13 = .ok (.aload_n 0, 1) := by decide +kernel
theorem d_X5_nextsThatAre_14 : decode cX5_nextsThatAre 14 = .ok (.aload_n 0, 1) := by decide +kernel
theorem d_X5_nextsThatAre_15 : decode cX5_nextsThatAre 15 = .ok (.getfield 20, 3) := by decide +kernel
theorem d_X5_nextsThatAre_18 : decode cX5_nextsThatAre 18 = .ok (.iload_n 3, 1) := by decide +kernel
theorem d_X5_nextsThatAre_19 : decode cX5_nextsThatAre 19 = .ok (.aaload, 1) := by decide +kernel
theorem d_X5_nextsThatAre_20 : decode cX5_nextsThatAre 20 = .ok (.iload_n 1, 1) := by decide +kernel
theorem d_X5_nextsThatAre_21 : decode cX5_nextsThatAre 21 = .ok (.invokevirtual 58, 3) := by decide +kernel
theorem d_X5_nextsThatAre_24 : decode cX5_nextsThatAre 24 = .ok (.iadd, 1) := by decide +kernel
theorem d_X5_nextsThatAre_25 : decode cX5_nextsThatAre 25 = .ok (.istore_n 2, 1) := by decide +kernel
theorem d_X5_nextsThatAre_26 : decode cX5_nextsThatAre 26 = .ok (.iinc 3 1, 3) := by decide +kernel
theorem d_X5_nextsThatAre_29 : decode cX5_nextsThatAre 29 = .ok (.goto (-25), 3) := by decide +kernel
theorem d_X5_nextsThatAre_32 : decode cX5_nextsThatAre 32 = .ok (.iload_n 2, 1) := by decide +kernel
theorem d_X5_nextsThatAre_33 : decode cX5_nextsThatAre 33 = .ok (.ireturn, 1) := by decide +kernel
theorem b_X5_nextsThatAre_0 {X : cX} {d : Nat} {μ : mM} {K : Option Value → mM → Prop} {r0 : Nat} {l1 : Int32} (h : G X (Rm (d + 1)) mX5_nextsThatAre 4 [(0, .ref r0), (1, .int l1), (2, .int 0), (3, .int 0)] [] μ 0 0 K) : G X (Rm (d + 1)) mX5_nextsThatAre 0 [(0, .ref r0), (1, .int l1)] [] μ 0 0 K := by
  refine G_iconst d_X5_nextsThatAre_0 ic_0 ?_
  refine G_istore_n (L' := [(2, .int 0), (0, .ref r0), (1, .int l1)]) d_X5_nextsThatAre_1 rfl (by decide) rfl ?_
  refine G_iconst d_X5_nextsThatAre_2 ic_0 ?_
  refine G_istore_n (L' := [(3, .int 0), (2, .int 0), (0, .ref r0), (1, .int l1)]) d_X5_nextsThatAre_3 rfl (by decide) rfl ?_
  refine G_sub (L' := [(0, .ref r0), (1, .int l1), (2, .int 0), (3, .int 0)]) [2, 3, 1, 0] rfl ?_
  exact h
theorem b_X5_nextsThatAre_4 {X : cX} {d : Nat} {μ : mM} {K : Option Value → mM → Prop} {r0 : Nat} {l1 : Int32} {l2 : Int32} {i3 : Nat} (w5_r0 : WF5 μ r0) (hK : (iv μ r0 0) ≤ (nI i3) → K (some (.int l2)) μ) (hb : ¬ (iv μ r0 0) ≤ (nI i3) → i3 < 6) (hc_cellsThatAre : ¬ (iv μ r0 0) ≤ (nI i3) → Ct X (Rm d) mX5_cellsThatAre [.ref r0, .ref (r0 + 7 + i3), .int l1] μ (fun r μ2 => G X (Rm (d + 1)) mX5_nextsThatAre 24 [(0, .ref r0), (1, .int l1), (3, .int (nI i3))] (r.toList ++ [.int l2]) μ2 0 0 K)) : G X (Rm (d + 1)) mX5_nextsThatAre 4 [(0, .ref r0), (1, .int l1), (2, .int l2), (3, .int (nI i3))] [] μ 0 0 K := by
  refine G_iload_n d_X5_nextsThatAre_4 rfl 3 rfl ?_
  refine G_aload_n d_X5_nextsThatAre_5 rfl 0 rfl ?_
  refine G_getI 5 0 (w5_kd w5_r0) cok5 (by decide) rfl fl_X5_29 d_X5_nextsThatAre_6 ?_
  refine G_icmp_ge (tgt := 32) d_X5_nextsThatAre_9 rfl (fun c0 => ?_) (fun c0 => ?_)
  ·
    refine G_iload_n d_X5_nextsThatAre_32 rfl 2 rfl ?_
    exact G_iret rfl rfl rfl d_X5_nextsThatAre_33 (hK c0)
  ·
    refine G_iload_n d_X5_nextsThatAre_12 rfl 2 rfl ?_
    refine G_aload_n d_X5_nextsThatAre_13 rfl 0 rfl ?_
    refine G_aload_n d_X5_nextsThatAre_14 rfl 0 rfl ?_
    refine G_getR (r := r0 + 6) 5 3 (w5_kd w5_r0) (w5_f3 w5_r0) cok5 (by decide) rfl fl_X5_20 d_X5_nextsThatAre_15 ?_
    refine G_iload_n d_X5_nextsThatAre_18 rfl 3 rfl ?_
    refine G_aaldA (r := r0 + 7 + i3) i3 (w5_k3 w5_r0) rfl (hb c0) (w5_r3 w5_r0 i3 (hb c0)) d_X5_nextsThatAre_19 ?_
    refine G_iload_n d_X5_nextsThatAre_20 rfl 1 rfl ?_
    refine G_sub (L' := [(0, .ref r0), (1, .int l1), (3, .int (nI i3))]) [0, 1, 3] rfl ?_
    refine G_callV (M' := mX5_cellsThatAre) (R' := (Rm d)) (S := [.int l2]) [.ref (r0 + 7 + i3), .int l1] 5 (w5_kd w5_r0) cok5 rfl ok_X5_cellsThatAre ml_X5_58 pn_X5_cellsThatAre (ru_Rm (by decide)) (Nat.le_of_ble_eq_true rfl) d_X5_nextsThatAre_21 ?_
    exact (hc_cellsThatAre c0)
theorem b_X5_nextsThatAre_24 {X : cX} {d : Nat} {μ : mM} {K : Option Value → mM → Prop} {r0 : Nat} {l1 : Int32} {i3 : Nat} {v0 : Int32} {v1 : Int32} (h : G X (Rm (d + 1)) mX5_nextsThatAre 4 [(0, .ref r0), (1, .int l1), (2, .int (v0 + v1)), (3, .int (nI (i3 + 1)))] [] μ 0 0 K) : G X (Rm (d + 1)) mX5_nextsThatAre 24 [(0, .ref r0), (1, .int l1), (3, .int (nI i3))] [.int v1, .int v0] μ 0 0 K := by
  refine G_iadd d_X5_nextsThatAre_24 ?_
  refine G_istore_n (L' := [(2, .int (v0 + v1)), (0, .ref r0), (1, .int l1), (3, .int (nI i3))]) d_X5_nextsThatAre_25 rfl (by decide) rfl ?_
  refine G_iinc (L' := [(3, .int (nI (i3 + 1))), (2, .int (v0 + v1)), (0, .ref r0), (1, .int l1)]) d_X5_nextsThatAre_26 3 rfl (inc1 i3) (by decide) rfl ?_
  refine G_goto (tgt := 4) d_X5_nextsThatAre_29 rfl ?_
  refine G_sub (L' := [(0, .ref r0), (1, .int l1), (2, .int (v0 + v1)), (3, .int (nI (i3 + 1)))]) [2, 3, 1, 0] rfl ?_
  exact h
theorem d_X5_cellsThatAre_0 : decode cX5_cellsThatAre 0 = .ok (.iconst 0, 1) := by decide +kernel
theorem d_X5_cellsThatAre_1 : decode cX5_cellsThatAre 1 = .ok (.istore_n 3, 1) := by decide +kernel
theorem d_X5_cellsThatAre_2 : decode cX5_cellsThatAre 2 = .ok (.iconst 0, 1) := by decide +kernel
theorem d_X5_cellsThatAre_3 : decode cX5_cellsThatAre 3 = .ok (.istore 4, 2) := by decide +kernel
theorem d_X5_cellsThatAre_5 : decode cX5_cellsThatAre 5 = .ok (.iload 4, 2) := by decide +kernel
theorem d_X5_cellsThatAre_7 : decode cX5_cellsThatAre 7 = .ok (.aload_n 0, 1) := by decide +kernel
theorem d_X5_cellsThatAre_8 : decode cX5_cellsThatAre 8 = .ok (.getfield 29, 3) := by decide +kernel
theorem d_X5_cellsThatAre_11 : decode cX5_cellsThatAre 11 = .ok (.if_icmp .ge 20, 3) := by decide +kernel
theorem d_X5_cellsThatAre_14 : decode cX5_cellsThatAre 14 = .ok (.aload_n 1, 1) := by decide +kernel
theorem d_X5_cellsThatAre_15 : decode cX5_cellsThatAre 15 = .ok (.iload 4, 2) := by decide +kernel
theorem d_X5_cellsThatAre_17 : decode cX5_cellsThatAre 17 = .ok (.iaload, 1) := by decide +kernel
theorem d_X5_cellsThatAre_18 : decode cX5_cellsThatAre 18 = .ok (.iload_n 2, 1) := by decide +kernel
theorem d_X5_cellsThatAre_19 : decode cX5_cellsThatAre 19 = .ok (.if_icmp .ne 6, 3) := by decide +kernel
theorem d_X5_cellsThatAre_22 : decode cX5_cellsThatAre 22 = .ok (.iinc 3 1, 3) := by decide +kernel
theorem d_X5_cellsThatAre_25 : decode cX5_cellsThatAre 25 = .ok (.iinc 4 1, 3) := by decide +kernel
theorem d_X5_cellsThatAre_28 : decode cX5_cellsThatAre 28 = .ok (.goto (-23), 3) := by decide +kernel
theorem d_X5_cellsThatAre_31 : decode cX5_cellsThatAre 31 = .ok (.iload_n 3, 1) := by decide +kernel
theorem d_X5_cellsThatAre_32 : decode cX5_cellsThatAre 32 = .ok (.ireturn, 1) := by decide +kernel
theorem b_X5_cellsThatAre_0 {X : cX} {d : Nat} {μ : mM} {K : Option Value → mM → Prop} {r0 : Nat} {r1 : Nat} {l2 : Int32} (h : G X (Rm d) mX5_cellsThatAre 5 [(0, .ref r0), (1, .ref r1), (2, .int l2), (3, .int 0), (4, .int 0)] [] μ 0 0 K) : G X (Rm d) mX5_cellsThatAre 0 [(0, .ref r0), (1, .ref r1), (2, .int l2)] [] μ 0 0 K := by
  refine G_iconst d_X5_cellsThatAre_0 ic_0 ?_
  refine G_istore_n (L' := [(3, .int 0), (0, .ref r0), (1, .ref r1), (2, .int l2)]) d_X5_cellsThatAre_1 rfl (by decide) rfl ?_
  refine G_iconst d_X5_cellsThatAre_2 ic_0 ?_
  refine G_istore (L' := [(4, .int 0), (3, .int 0), (0, .ref r0), (1, .ref r1), (2, .int l2)]) d_X5_cellsThatAre_3 (by decide) rfl ?_
  refine G_sub (L' := [(0, .ref r0), (1, .ref r1), (2, .int l2), (3, .int 0), (4, .int 0)]) [2, 3, 4, 1, 0] rfl ?_
  exact h
theorem b_X5_cellsThatAre_5 {X : cX} {d : Nat} {μ : mM} {K : Option Value → mM → Prop} {r0 : Nat} {r1 : Nat} {l2 : Int32} {i3 : Nat} {i4 : Nat} {n0 : Nat} (w5_r0 : WF5 μ r0) (hK : (iv μ r0 0) ≤ (nI i4) → K (some (.int (nI i3))) μ) (hk_r1 : ¬ (iv μ r0 0) ≤ (nI i4) → kd μ r1 = (1, n0)) (hb : ¬ (iv μ r0 0) ≤ (nI i4) → i4 < n0) (h : ¬ (iv μ r0 0) ≤ (nI i4) → ¬ (iv μ r1 i4) = l2 → G X (Rm d) mX5_cellsThatAre 25 [(0, .ref r0), (1, .ref r1), (2, .int l2), (3, .int (nI i3)), (4, .int (nI i4))] [] μ 0 0 K) (h_2 : ¬ (iv μ r0 0) ≤ (nI i4) → (iv μ r1 i4) = l2 → G X (Rm d) mX5_cellsThatAre 25 [(0, .ref r0), (1, .ref r1), (2, .int l2), (3, .int (nI (i3 + 1))), (4, .int (nI i4))] [] μ 0 0 K) : G X (Rm d) mX5_cellsThatAre 5 [(0, .ref r0), (1, .ref r1), (2, .int l2), (3, .int (nI i3)), (4, .int (nI i4))] [] μ 0 0 K := by
  refine G_iload d_X5_cellsThatAre_5 4 rfl ?_
  refine G_aload_n d_X5_cellsThatAre_7 rfl 0 rfl ?_
  refine G_getI 5 0 (w5_kd w5_r0) cok5 (by decide) rfl fl_X5_29 d_X5_cellsThatAre_8 ?_
  refine G_icmp_ge (tgt := 31) d_X5_cellsThatAre_11 rfl (fun c0 => ?_) (fun c0 => ?_)
  ·
    refine G_iload_n d_X5_cellsThatAre_31 rfl 3 rfl ?_
    exact G_iret rfl rfl rfl d_X5_cellsThatAre_32 (hK c0)
  ·
    refine G_aload_n d_X5_cellsThatAre_14 rfl 1 rfl ?_
    refine G_iload d_X5_cellsThatAre_15 4 rfl ?_
    refine G_iald i4 (hk_r1 c0) rfl (hb c0) d_X5_cellsThatAre_17 ?_
    refine G_iload_n d_X5_cellsThatAre_18 rfl 2 rfl ?_
    refine G_icmp_ne (tgt := 25) d_X5_cellsThatAre_19 rfl (fun c1 => ?_) (fun c1 => ?_)
    ·
      exact (h c0 c1)
    ·
      refine G_iinc (L' := [(3, .int (nI (i3 + 1))), (0, .ref r0), (1, .ref r1), (2, .int l2), (4, .int (nI i4))]) d_X5_cellsThatAre_22 3 rfl (inc1 i3) (by decide) rfl ?_
      refine G_sub (L' := [(0, .ref r0), (1, .ref r1), (2, .int l2), (3, .int (nI (i3 + 1))), (4, .int (nI i4))]) [1, 2, 3, 0, 4] rfl ?_
      exact (h_2 c0 c1)
theorem b_X5_cellsThatAre_25 {X : cX} {d : Nat} {μ : mM} {K : Option Value → mM → Prop} {r0 : Nat} {r1 : Nat} {l2 : Int32} {l3 : Int32} {i4 : Nat} (h : G X (Rm d) mX5_cellsThatAre 5 [(0, .ref r0), (1, .ref r1), (2, .int l2), (3, .int l3), (4, .int (nI (i4 + 1)))] [] μ 0 0 K) : G X (Rm d) mX5_cellsThatAre 25 [(0, .ref r0), (1, .ref r1), (2, .int l2), (3, .int l3), (4, .int (nI i4))] [] μ 0 0 K := by
  refine G_iinc (L' := [(4, .int (nI (i4 + 1))), (0, .ref r0), (1, .ref r1), (2, .int l2), (3, .int l3)]) d_X5_cellsThatAre_25 4 rfl (inc1 i4) (by decide) rfl ?_
  refine G_goto (tgt := 5) d_X5_cellsThatAre_28 rfl ?_
  refine G_sub (L' := [(0, .ref r0), (1, .ref r1), (2, .int l2), (3, .int l3), (4, .int (nI (i4 + 1)))]) [1, 2, 3, 4, 0] rfl ?_
  exact h
theorem d_X5_isHeap_0 : decode cX5_isHeap 0 = .ok (.aload_n 0, 1) := by decide +kernel
theorem d_X5_isHeap_1 : decode cX5_isHeap 1 = .ok (.invokevirtual 62, 3) := by decide +kernel
theorem d_X5_isHeap_4 : decode cX5_isHeap 4 = .ok (.ifCond .ne 23, 3) := by decide +kernel
theorem d_X5_isHeap_7 : decode cX5_isHeap 7 = .ok (.aload_n 0, 1) := by decide +kernel
theorem d_X5_isHeap_8 : decode cX5_isHeap 8 = .ok (.iconst 1, 1) := by decide +kernel
theorem d_X5_isHeap_9 : decode cX5_isHeap 9 = .ok (.invokevirtual 66, 3) := by decide +kernel
theorem d_X5_isHeap_12 : decode cX5_isHeap 12 = .ok (.ifCond .ne 15, 3) := by decide +kernel
theorem d_X5_isHeap_15 : decode cX5_isHeap 15 = .ok (.aload_n 0, 1) := by decide +kernel
theorem d_X5_isHeap_16 : decode cX5_isHeap 16 = .ok (.iconst 1, 1) := by decide +kernel
theorem d_X5_isHeap_17 : decode cX5_isHeap 17 = .ok (.invokevirtual 70, 3) := by decide +kernel
theorem d_X5_isHeap_20 : decode cX5_isHeap 20 = .ok (.ifCond .ne 7, 3) := by decide +kernel
theorem d_X5_isHeap_23 : decode cX5_isHeap 23 = .ok (.iconst 1, 1) := by decide +kernel
theorem d_X5_isHeap_24 : decode cX5_isHeap 24 = .ok (.goto 4, 3) := by decide +kernel
theorem d_X5_isHeap_27 : decode cX5_isHeap 27 = .ok (.iconst 0, 1) := by decide +kernel
theorem d_X5_isHeap_28 : decode cX5_isHeap 28 = .ok (.istore_n 1, 1) := by decide +kernel
theorem d_X5_isHeap_29 : decode cX5_isHeap 29 = .ok (.iconst 0, 1) := by decide +kernel
theorem d_X5_isHeap_30 : decode cX5_isHeap 30 = .ok (.istore_n 2, 1) := by decide +kernel
theorem d_X5_isHeap_31 : decode cX5_isHeap 31 = .ok (.iload_n 2, 1) := by decide +kernel
theorem d_X5_isHeap_32 : decode cX5_isHeap 32 = .ok (.iconst 3, 1) := by decide +kernel
theorem d_X5_isHeap_33 : decode cX5_isHeap 33 = .ok (.if_icmp .ge 34, 3) := by decide +kernel
theorem d_X5_isHeap_36 : decode cX5_isHeap 36 = .ok (.iload_n 1, 1) := by decide +kernel
theorem d_X5_isHeap_37 : decode cX5_isHeap 37 = .ok (.ifCond .eq 30, 3) := by decide +kernel
theorem d_X5_isHeap_40 : decode cX5_isHeap 40 = .ok (.aload_n 0, 1) := by decide +kernel
theorem d_X5_isHeap_41 : decode cX5_isHeap 41 = .ok (.aload_n 0, 1) := by decide +kernel
theorem d_X5_isHeap_42 : decode cX5_isHeap 42 = .ok (.getfield 17, 3) := by decide +kernel
theorem d_X5_isHeap_45 : decode cX5_isHeap 45 = .ok (.iload_n 2, 1) := by decide +kernel
theorem d_X5_isHeap_46 : decode cX5_isHeap 46 = .ok (.aaload, 1) := by decide +kernel
theorem d_X5_isHeap_47 : decode cX5_isHeap 47 = .ok (.iconst 2, 1) := by decide +kernel
theorem d_X5_isHeap_48 : decode cX5_isHeap 48 = .ok (.invokevirtual 58, 3) := by decide +kernel
theorem d_X5_isHeap_51 : decode cX5_isHeap 51 = .ok (.iconst 1, 1) := by decide +kernel
theorem d_X5_isHeap_52 : decode cX5_isHeap 52 = .ok (.if_icmp .gt 7, 3) := by decide +kernel
theorem d_X5_isHeap_55 : decode cX5_isHeap 55 = .ok (.iconst 1, 1) := by decide +kernel
theorem d_X5_isHeap_56 : decode cX5_isHeap 56 = .ok (.goto 4, 3) := by decide +kernel
theorem d_X5_isHeap_59 : decode cX5_isHeap 59 = .ok (.iconst 0, 1) := by decide +kernel
theorem d_X5_isHeap_60 : decode cX5_isHeap 60 = .ok (.istore_n 1, 1) := by decide +kernel
theorem d_X5_isHeap_61 : decode cX5_isHeap 61 = .ok (.iinc 2 1, 3) := by decide +kernel
theorem d_X5_isHeap_64 : decode cX5_isHeap 64 = .ok (.goto (-33), 3) := by decide +kernel
theorem d_X5_isHeap_67 : decode cX5_isHeap 67 = .ok (.iconst 0, 1) := by decide +kernel
theorem d_X5_isHeap_68 : decode cX5_isHeap 68 = .ok (.istore_n 2, 1) := by decide +kernel
theorem d_X5_isHeap_69 : decode cX5_isHeap 69 = .ok (.iload_n 2, 1) := by decide +kernel
theorem d_X5_isHeap_70 : decode cX5_isHeap 70 = .ok (.aload_n 0, 1) := by decide +kernel
theorem d_X5_isHeap_71 : decode cX5_isHeap 71 = .ok (.getfield 29, 3) := by decide +kernel
theorem d_X5_isHeap_74 : decode cX5_isHeap 74 = .ok (.if_icmp .ge 34, 3) := by decide +kernel
theorem d_X5_isHeap_77 : decode cX5_isHeap 77 = .ok (.iload_n 1, 1) := by decide +kernel
theorem d_X5_isHeap_78 : decode cX5_isHeap 78 = .ok (.ifCond .eq 30, 3) := by decide +kernel
theorem d_X5_isHeap_81 : decode cX5_isHeap 81 = .ok (.aload_n 0, 1) := by decide +kernel
theorem d_X5_isHeap_82 : decode cX5_isHeap 82 = .ok (.aload_n 0, 1) := by decide +kernel
theorem d_X5_isHeap_83 : decode cX5_isHeap 83 = .ok (.getfield 20, 3) := by decide +kernel
theorem d_X5_isHeap_86 : decode cX5_isHeap 86 = .ok (.iload_n 2, 1) := by decide +kernel
theorem d_X5_isHeap_87 : decode cX5_isHeap 87 = .ok (.aaload, 1) := by decide +kernel
theorem d_X5_isHeap_88 : decode cX5_isHeap 88 = .ok (.iconst 2, 1) := by decide +kernel
theorem d_X5_isHeap_89 : decode cX5_isHeap 89 = .ok (.invokevirtual 58, 3) := by decide +kernel
theorem d_X5_isHeap_92 : decode cX5_isHeap 92 = .ok (.iconst 1, 1) := by decide +kernel
theorem d_X5_isHeap_93 : decode cX5_isHeap 93 = .ok (.if_icmp .gt 7, 3) := by decide +kernel
theorem d_X5_isHeap_96 : decode cX5_isHeap 96 = .ok (.iconst 1, 1) := by decide +kernel
theorem d_X5_isHeap_97 : decode cX5_isHeap 97 = .ok (.goto 4, 3) := by decide +kernel
theorem d_X5_isHeap_100 : decode cX5_isHeap 100 = .ok (.iconst 0, 1) := by decide +kernel
theorem d_X5_isHeap_101 : decode cX5_isHeap 101 = .ok (.istore_n 1, 1) := by decide +kernel
theorem d_X5_isHeap_102 : decode cX5_isHeap 102 = .ok (.iinc 2 1, 3) := by decide +kernel
theorem d_X5_isHeap_105 : decode cX5_isHeap 105 = .ok (.goto (-36), 3) := by decide +kernel
theorem d_X5_isHeap_108 : decode cX5_isHeap 108 = .ok (.iload_n 1, 1) := by decide +kernel
theorem d_X5_isHeap_109 : decode cX5_isHeap 109 = .ok (.ireturn, 1) := by decide +kernel
theorem b_X5_isHeap_0 {X : cX} {d : Nat} {μ : mM} {K : Option Value → mM → Prop} {r0 : Nat} (w5_r0 : WF5 μ r0) (hc_manys : Ct X (Rm d) mX5_manys [.ref r0] μ (fun r μ2 => G X (Rm (d + 1)) mX5_isHeap 4 [(0, .ref r0)] (r.toList ++ []) μ2 0 0 K)) : G X (Rm (d + 1)) mX5_isHeap 0 [(0, .ref r0)] [] μ 0 0 K := by
  refine G_aload_n d_X5_isHeap_0 rfl 0 rfl ?_
  refine G_callV (M' := mX5_manys) (R' := (Rm d)) (S := []) [] 5 (w5_kd w5_r0) cok5 rfl ok_X5_manys ml_X5_62 pn_X5_manys (ru_Rm (by decide)) (Nat.le_of_ble_eq_true rfl) d_X5_isHeap_1 ?_
  exact hc_manys
theorem b_X5_isHeap_4 {X : cX} {d : Nat} {μ : mM} {K : Option Value → mM → Prop} {r0 : Nat} {v0 : Int32} (h : ¬ v0 = 0 → G X (Rm (d + 1)) mX5_isHeap 27 [(0, .ref r0)] [] μ 0 0 K) (w5_r0 : WF5 μ r0) (hc_atsThatAre : v0 = 0 → Ct X (Rm d) mX5_atsThatAre [.ref r0, .int 1] μ (fun r μ2 => G X (Rm (d + 1)) mX5_isHeap 12 [(0, .ref r0)] (r.toList ++ []) μ2 0 0 K)) : G X (Rm (d + 1)) mX5_isHeap 4 [(0, .ref r0)] [.int v0] μ 0 0 K := by
  refine G_if_ne (tgt := 27) d_X5_isHeap_4 rfl (fun c0 => ?_) (fun c0 => ?_)
  ·
    exact (h c0)
  ·
    refine G_aload_n d_X5_isHeap_7 rfl 0 rfl ?_
    refine G_iconst d_X5_isHeap_8 ic_1 ?_
    refine G_callV (M' := mX5_atsThatAre) (R' := (Rm d)) (S := []) [.int 1] 5 (w5_kd w5_r0) cok5 rfl ok_X5_atsThatAre ml_X5_66 pn_X5_atsThatAre (ru_Rm (by decide)) (Nat.le_of_ble_eq_true rfl) d_X5_isHeap_9 ?_
    exact (hc_atsThatAre c0)
theorem b_X5_isHeap_12 {X : cX} {d : Nat} {μ : mM} {K : Option Value → mM → Prop} {r0 : Nat} {v0 : Int32} (h : ¬ v0 = 0 → G X (Rm (d + 1)) mX5_isHeap 27 [(0, .ref r0)] [] μ 0 0 K) (w5_r0 : WF5 μ r0) (hc_nextsThatAre : v0 = 0 → Ct X (Rm d) mX5_nextsThatAre [.ref r0, .int 1] μ (fun r μ2 => G X (Rm (d + 1)) mX5_isHeap 20 [(0, .ref r0)] (r.toList ++ []) μ2 0 0 K)) : G X (Rm (d + 1)) mX5_isHeap 12 [(0, .ref r0)] [.int v0] μ 0 0 K := by
  refine G_if_ne (tgt := 27) d_X5_isHeap_12 rfl (fun c0 => ?_) (fun c0 => ?_)
  ·
    exact (h c0)
  ·
    refine G_aload_n d_X5_isHeap_15 rfl 0 rfl ?_
    refine G_iconst d_X5_isHeap_16 ic_1 ?_
    refine G_callV (M' := mX5_nextsThatAre) (R' := (Rm d)) (S := []) [.int 1] 5 (w5_kd w5_r0) cok5 rfl ok_X5_nextsThatAre ml_X5_70 pn_X5_nextsThatAre (ru_Rm (by decide)) (Nat.le_of_ble_eq_true rfl) d_X5_isHeap_17 ?_
    exact (hc_nextsThatAre c0)
theorem b_X5_isHeap_20 {X : cX} {d : Nat} {μ : mM} {K : Option Value → mM → Prop} {r0 : Nat} {v0 : Int32} (h : ¬ v0 = 0 → G X (Rm (d + 1)) mX5_isHeap 27 [(0, .ref r0)] [] μ 0 0 K) (h_2 : v0 = 0 → G X (Rm (d + 1)) mX5_isHeap 28 [(0, .ref r0)] [.int 1] μ 0 0 K) : G X (Rm (d + 1)) mX5_isHeap 20 [(0, .ref r0)] [.int v0] μ 0 0 K := by
  refine G_if_ne (tgt := 27) d_X5_isHeap_20 rfl (fun c0 => ?_) (fun c0 => ?_)
  ·
    exact (h c0)
  ·
    refine G_iconst d_X5_isHeap_23 ic_1 ?_
    refine G_goto (tgt := 28) d_X5_isHeap_24 rfl ?_
    exact (h_2 c0)
theorem b_X5_isHeap_27 {X : cX} {d : Nat} {μ : mM} {K : Option Value → mM → Prop} {r0 : Nat} (h : G X (Rm (d + 1)) mX5_isHeap 28 [(0, .ref r0)] [.int 0] μ 0 0 K) : G X (Rm (d + 1)) mX5_isHeap 27 [(0, .ref r0)] [] μ 0 0 K := by
  refine G_iconst d_X5_isHeap_27 ic_0 ?_
  exact h
theorem b_X5_isHeap_28 {X : cX} {d : Nat} {μ : mM} {K : Option Value → mM → Prop} {r0 : Nat} {v0 : Int32} (h : G X (Rm (d + 1)) mX5_isHeap 31 [(0, .ref r0), (1, .int v0), (2, .int 0)] [] μ 0 0 K) : G X (Rm (d + 1)) mX5_isHeap 28 [(0, .ref r0)] [.int v0] μ 0 0 K := by
  refine G_istore_n (L' := [(1, .int v0), (0, .ref r0)]) d_X5_isHeap_28 rfl (by decide) rfl ?_
  refine G_iconst d_X5_isHeap_29 ic_0 ?_
  refine G_istore_n (L' := [(2, .int 0), (1, .int v0), (0, .ref r0)]) d_X5_isHeap_30 rfl (by decide) rfl ?_
  refine G_sub (L' := [(0, .ref r0), (1, .int v0), (2, .int 0)]) [2, 1, 0] rfl ?_
  exact h
theorem b_X5_isHeap_31 {X : cX} {d : Nat} {μ : mM} {K : Option Value → mM → Prop} {r0 : Nat} {l1 : Int32} {i2 : Nat} (h : (3 : Int32) ≤ (nI i2) → G X (Rm (d + 1)) mX5_isHeap 67 [(0, .ref r0), (1, .int l1)] [] μ 0 0 K) (h_2 : ¬ (3 : Int32) ≤ (nI i2) → l1 = 0 → G X (Rm (d + 1)) mX5_isHeap 67 [(0, .ref r0), (1, .int l1)] [] μ 0 0 K) (w5_r0 : WF5 μ r0) (hb : ¬ (3 : Int32) ≤ (nI i2) → ¬ l1 = 0 → i2 < 3) (hc_cellsThatAre : ¬ (3 : Int32) ≤ (nI i2) → ¬ l1 = 0 → Ct X (Rm d) mX5_cellsThatAre [.ref r0, .ref (r0 + 3 + i2), .int 2] μ (fun r μ2 => G X (Rm (d + 1)) mX5_isHeap 51 [(0, .ref r0), (2, .int (nI i2))] (r.toList ++ []) μ2 0 0 K)) : G X (Rm (d + 1)) mX5_isHeap 31 [(0, .ref r0), (1, .int l1), (2, .int (nI i2))] [] μ 0 0 K := by
  refine G_iload_n d_X5_isHeap_31 rfl 2 rfl ?_
  refine G_iconst d_X5_isHeap_32 ic_3 ?_
  refine G_icmp_ge (tgt := 67) d_X5_isHeap_33 rfl (fun c0 => ?_) (fun c0 => ?_)
  ·
    refine G_sub (L' := [(0, .ref r0), (1, .int l1)]) [0, 1] rfl ?_
    exact (h c0)
  ·
    refine G_iload_n d_X5_isHeap_36 rfl 1 rfl ?_
    refine G_if_eq (tgt := 67) d_X5_isHeap_37 rfl (fun c1 => ?_) (fun c1 => ?_)
    ·
      refine G_sub (L' := [(0, .ref r0), (1, .int l1)]) [0, 1] rfl ?_
      exact (h_2 c0 c1)
    ·
      refine G_aload_n d_X5_isHeap_40 rfl 0 rfl ?_
      refine G_aload_n d_X5_isHeap_41 rfl 0 rfl ?_
      refine G_getR (r := r0 + 2) 5 2 (w5_kd w5_r0) (w5_f2 w5_r0) cok5 (by decide) rfl fl_X5_17 d_X5_isHeap_42 ?_
      refine G_iload_n d_X5_isHeap_45 rfl 2 rfl ?_
      refine G_aaldA (r := r0 + 3 + i2) i2 (w5_k2 w5_r0) rfl (hb c0 c1) (w5_r2 w5_r0 i2 (hb c0 c1)) d_X5_isHeap_46 ?_
      refine G_iconst d_X5_isHeap_47 ic_2 ?_
      refine G_sub (L' := [(0, .ref r0), (2, .int (nI i2))]) [0, 2] rfl ?_
      refine G_callV (M' := mX5_cellsThatAre) (R' := (Rm d)) (S := []) [.ref (r0 + 3 + i2), .int 2] 5 (w5_kd w5_r0) cok5 rfl ok_X5_cellsThatAre ml_X5_58 pn_X5_cellsThatAre (ru_Rm (by decide)) (Nat.le_of_ble_eq_true rfl) d_X5_isHeap_48 ?_
      exact (hc_cellsThatAre c0 c1)
theorem b_X5_isHeap_51 {X : cX} {d : Nat} {μ : mM} {K : Option Value → mM → Prop} {r0 : Nat} {l2 : Int32} {v0 : Int32} (h : (1 : Int32) < v0 → G X (Rm (d + 1)) mX5_isHeap 60 [(0, .ref r0), (2, .int l2)] [.int 0] μ 0 0 K) (h_2 : ¬ (1 : Int32) < v0 → G X (Rm (d + 1)) mX5_isHeap 60 [(0, .ref r0), (2, .int l2)] [.int 1] μ 0 0 K) : G X (Rm (d + 1)) mX5_isHeap 51 [(0, .ref r0), (2, .int l2)] [.int v0] μ 0 0 K := by
  refine G_iconst d_X5_isHeap_51 ic_1 ?_
  refine G_icmp_gt (tgt := 59) d_X5_isHeap_52 rfl (fun c0 => ?_) (fun c0 => ?_)
  ·
    refine G_iconst d_X5_isHeap_59 ic_0 ?_
    exact (h c0)
  ·
    refine G_iconst d_X5_isHeap_55 ic_1 ?_
    refine G_goto (tgt := 60) d_X5_isHeap_56 rfl ?_
    exact (h_2 c0)
theorem b_X5_isHeap_60 {X : cX} {d : Nat} {μ : mM} {K : Option Value → mM → Prop} {r0 : Nat} {i2 : Nat} {v0 : Int32} (h : G X (Rm (d + 1)) mX5_isHeap 31 [(0, .ref r0), (1, .int v0), (2, .int (nI (i2 + 1)))] [] μ 0 0 K) : G X (Rm (d + 1)) mX5_isHeap 60 [(0, .ref r0), (2, .int (nI i2))] [.int v0] μ 0 0 K := by
  refine G_istore_n (L' := [(1, .int v0), (0, .ref r0), (2, .int (nI i2))]) d_X5_isHeap_60 rfl (by decide) rfl ?_
  refine G_iinc (L' := [(2, .int (nI (i2 + 1))), (1, .int v0), (0, .ref r0)]) d_X5_isHeap_61 2 rfl (inc1 i2) (by decide) rfl ?_
  refine G_goto (tgt := 31) d_X5_isHeap_64 rfl ?_
  refine G_sub (L' := [(0, .ref r0), (1, .int v0), (2, .int (nI (i2 + 1)))]) [2, 1, 0] rfl ?_
  exact h
theorem b_X5_isHeap_67 {X : cX} {d : Nat} {μ : mM} {K : Option Value → mM → Prop} {r0 : Nat} {l1 : Int32} (h : G X (Rm (d + 1)) mX5_isHeap 69 [(0, .ref r0), (1, .int l1), (2, .int 0)] [] μ 0 0 K) : G X (Rm (d + 1)) mX5_isHeap 67 [(0, .ref r0), (1, .int l1)] [] μ 0 0 K := by
  refine G_iconst d_X5_isHeap_67 ic_0 ?_
  refine G_istore_n (L' := [(2, .int 0), (0, .ref r0), (1, .int l1)]) d_X5_isHeap_68 rfl (by decide) rfl ?_
  refine G_sub (L' := [(0, .ref r0), (1, .int l1), (2, .int 0)]) [1, 2, 0] rfl ?_
  exact h
theorem b_X5_isHeap_69 {X : cX} {d : Nat} {μ : mM} {K : Option Value → mM → Prop} {r0 : Nat} {l1 : Int32} {i2 : Nat} (w5_r0 : WF5 μ r0) (hK : (iv μ r0 0) ≤ (nI i2) → K (some (.int l1)) μ) (hz : (iv μ r0 0) ≤ (nI i2) → l1 = 0 ∨ l1 = 1) (hK_2 : ¬ (iv μ r0 0) ≤ (nI i2) → l1 = 0 → K (some (.int l1)) μ) (hz_2 : ¬ (iv μ r0 0) ≤ (nI i2) → l1 = 0 → l1 = 0 ∨ l1 = 1) (hb : ¬ (iv μ r0 0) ≤ (nI i2) → ¬ l1 = 0 → i2 < 6) (hc_cellsThatAre : ¬ (iv μ r0 0) ≤ (nI i2) → ¬ l1 = 0 → Ct X (Rm d) mX5_cellsThatAre [.ref r0, .ref (r0 + 7 + i2), .int 2] μ (fun r μ2 => G X (Rm (d + 1)) mX5_isHeap 92 [(0, .ref r0), (2, .int (nI i2))] (r.toList ++ []) μ2 0 0 K)) : G X (Rm (d + 1)) mX5_isHeap 69 [(0, .ref r0), (1, .int l1), (2, .int (nI i2))] [] μ 0 0 K := by
  refine G_iload_n d_X5_isHeap_69 rfl 2 rfl ?_
  refine G_aload_n d_X5_isHeap_70 rfl 0 rfl ?_
  refine G_getI 5 0 (w5_kd w5_r0) cok5 (by decide) rfl fl_X5_29 d_X5_isHeap_71 ?_
  refine G_icmp_ge (tgt := 108) d_X5_isHeap_74 rfl (fun c0 => ?_) (fun c0 => ?_)
  ·
    refine G_iload_n d_X5_isHeap_108 rfl 1 rfl ?_
    exact G_zret rfl (nar_b (hz c0)) rfl rfl d_X5_isHeap_109 (hK c0)
  ·
    refine G_iload_n d_X5_isHeap_77 rfl 1 rfl ?_
    refine G_if_eq (tgt := 108) d_X5_isHeap_78 rfl (fun c1 => ?_) (fun c1 => ?_)
    ·
      refine G_iload_n d_X5_isHeap_108 rfl 1 rfl ?_
      exact G_zret rfl (nar_b (hz_2 c0 c1)) rfl rfl d_X5_isHeap_109 (hK_2 c0 c1)
    ·
      refine G_aload_n d_X5_isHeap_81 rfl 0 rfl ?_
      refine G_aload_n d_X5_isHeap_82 rfl 0 rfl ?_
      refine G_getR (r := r0 + 6) 5 3 (w5_kd w5_r0) (w5_f3 w5_r0) cok5 (by decide) rfl fl_X5_20 d_X5_isHeap_83 ?_
      refine G_iload_n d_X5_isHeap_86 rfl 2 rfl ?_
      refine G_aaldA (r := r0 + 7 + i2) i2 (w5_k3 w5_r0) rfl (hb c0 c1) (w5_r3 w5_r0 i2 (hb c0 c1)) d_X5_isHeap_87 ?_
      refine G_iconst d_X5_isHeap_88 ic_2 ?_
      refine G_sub (L' := [(0, .ref r0), (2, .int (nI i2))]) [0, 2] rfl ?_
      refine G_callV (M' := mX5_cellsThatAre) (R' := (Rm d)) (S := []) [.ref (r0 + 7 + i2), .int 2] 5 (w5_kd w5_r0) cok5 rfl ok_X5_cellsThatAre ml_X5_58 pn_X5_cellsThatAre (ru_Rm (by decide)) (Nat.le_of_ble_eq_true rfl) d_X5_isHeap_89 ?_
      exact (hc_cellsThatAre c0 c1)
theorem b_X5_isHeap_92 {X : cX} {d : Nat} {μ : mM} {K : Option Value → mM → Prop} {r0 : Nat} {l2 : Int32} {v0 : Int32} (h : (1 : Int32) < v0 → G X (Rm (d + 1)) mX5_isHeap 101 [(0, .ref r0), (2, .int l2)] [.int 0] μ 0 0 K) (h_2 : ¬ (1 : Int32) < v0 → G X (Rm (d + 1)) mX5_isHeap 101 [(0, .ref r0), (2, .int l2)] [.int 1] μ 0 0 K) : G X (Rm (d + 1)) mX5_isHeap 92 [(0, .ref r0), (2, .int l2)] [.int v0] μ 0 0 K := by
  refine G_iconst d_X5_isHeap_92 ic_1 ?_
  refine G_icmp_gt (tgt := 100) d_X5_isHeap_93 rfl (fun c0 => ?_) (fun c0 => ?_)
  ·
    refine G_iconst d_X5_isHeap_100 ic_0 ?_
    exact (h c0)
  ·
    refine G_iconst d_X5_isHeap_96 ic_1 ?_
    refine G_goto (tgt := 101) d_X5_isHeap_97 rfl ?_
    exact (h_2 c0)
theorem b_X5_isHeap_101 {X : cX} {d : Nat} {μ : mM} {K : Option Value → mM → Prop} {r0 : Nat} {i2 : Nat} {v0 : Int32} (h : G X (Rm (d + 1)) mX5_isHeap 69 [(0, .ref r0), (1, .int v0), (2, .int (nI (i2 + 1)))] [] μ 0 0 K) : G X (Rm (d + 1)) mX5_isHeap 101 [(0, .ref r0), (2, .int (nI i2))] [.int v0] μ 0 0 K := by
  refine G_istore_n (L' := [(1, .int v0), (0, .ref r0), (2, .int (nI i2))]) d_X5_isHeap_101 rfl (by decide) rfl ?_
  refine G_iinc (L' := [(2, .int (nI (i2 + 1))), (1, .int v0), (0, .ref r0)]) d_X5_isHeap_102 2 rfl (inc1 i2) (by decide) rfl ?_
  refine G_goto (tgt := 69) d_X5_isHeap_105 rfl ?_
  refine G_sub (L' := [(0, .ref r0), (1, .int v0), (2, .int (nI (i2 + 1)))]) [2, 1, 0] rfl ?_
  exact h
theorem d_X5_trace_0 : decode cX5_trace 0 = .ok (.iconst 0, 1) := by decide +kernel
theorem d_X5_trace_1 : decode cX5_trace 1 = .ok (.istore_n 1, 1) := by decide +kernel
theorem d_X5_trace_2 : decode cX5_trace 2 = .ok (.iload_n 1, 1) := by decide +kernel
theorem d_X5_trace_3 : decode cX5_trace 3 = .ok (.aload_n 0, 1) := by decide +kernel
theorem d_X5_trace_4 : decode cX5_trace 4 = .ok (.getfield 29, 3) := by decide +kernel
theorem d_X5_trace_7 : decode cX5_trace 7 = .ok (.if_icmp .ge 28, 3) := by decide +kernel
theorem d_X5_trace_10 : decode cX5_trace 10 = .ok (.aload_n 0, 1) := by decide +kernel
theorem d_X5_trace_11 : decode cX5_trace 11 = .ok (.getfield 20, 3) := by decide +kernel
theorem d_X5_trace_14 : decode cX5_trace 14 = .ok (.iload_n 1, 1) := by decide +kernel
theorem d_X5_trace_15 : decode cX5_trace 15 = .ok (.aaload, 1) := by decide +kernel
theorem d_X5_trace_16 : decode cX5_trace 16 = .ok (.iconst 0, 1) := by decide +kernel
theorem d_X5_trace_17 : decode cX5_trace 17 = .ok (.aload_n 0, 1) := by decide +kernel
theorem d_X5_trace_18 : decode cX5_trace 18 = .ok (.getfield 23, 3) := by decide +kernel
theorem d_X5_trace_21 : decode cX5_trace 21 = .ok (.iload_n 1, 1) := by decide +kernel
theorem d_X5_trace_22 : decode cX5_trace 22 = .ok (.aaload, 1) := by decide +kernel
theorem d_X5_trace_23 : decode cX5_trace 23 = .ok (.iconst 0, 1) := by decide +kernel
theorem d_X5_trace_24 : decode cX5_trace 24 = .ok (.bipush 6, 2) := by decide +kernel
theorem d_X5_trace_26 : decode cX5_trace 26 = .ok (.invokestatic 39, 3) := by decide +kernel
theorem d_X5_trace_29 : decode cX5_trace 29 = .ok (.iinc 1 1, 3) := by decide +kernel
theorem d_X5_trace_32 : decode cX5_trace 32 = .ok (.goto (-30), 3) := by decide +kernel
theorem d_X5_trace_35 : decode cX5_trace 35 = .ok (.iconst 0, 1) := by decide +kernel
theorem d_X5_trace_36 : decode cX5_trace 36 = .ok (.istore_n 1, 1) := by decide +kernel
theorem d_X5_trace_37 : decode cX5_trace 37 = .ok (.iload_n 1, 1) := by decide +kernel
theorem d_X5_trace_38 : decode cX5_trace 38 = .ok (.aload_n 0, 1) := by decide +kernel
theorem d_X5_trace_39 : decode cX5_trace 39 = .ok (.getfield 29, 3) := by decide +kernel
theorem d_X5_trace_42 : decode cX5_trace 42 = .ok (.if_icmp .ge 79, 3) := by decide +kernel
theorem d_X5_trace_45 : decode cX5_trace 45 = .ok (.iconst 0, 1) := by decide +kernel
theorem d_X5_trace_46 : decode cX5_trace 46 = .ok (.istore_n 2, 1) := by decide +kernel
theorem d_X5_trace_47 : decode cX5_trace 47 = .ok (.iload_n 2, 1) := by decide +kernel
theorem d_X5_trace_48 : decode cX5_trace 48 = .ok (.aload_n 0, 1) := by decide +kernel
theorem d_X5_trace_49 : decode cX5_trace 49 = .ok (.getfield 29, 3) := by decide +kernel
theorem d_X5_trace_52 : decode cX5_trace 52 = .ok (.if_icmp .ge 63, 3) := by decide +kernel
theorem d_X5_trace_55 : decode cX5_trace 55 = .ok (.iconst 0, 1) := by decide +kernel
theorem d_X5_trace_56 : decode cX5_trace 56 = .ok (.istore_n 3, 1) := by decide +kernel
theorem d_X5_trace_57 : decode cX5_trace 57 = .ok (.iload_n 3, 1) := by decide +kernel
theorem d_X5_trace_58 : decode cX5_trace 58 = .ok (.aload_n 0, 1) := by decide +kernel
theorem d_X5_trace_59 : decode cX5_trace 59 = .ok (.getfield 29, 3) := by decide +kernel
theorem d_X5_trace_62 : decode cX5_trace 62 = .ok (.if_icmp .ge 47, 3) := by decide +kernel
theorem d_X5_trace_65 : decode cX5_trace 65 = .ok (.aload_n 0, 1) := by decide +kernel
theorem d_X5_trace_66 : decode cX5_trace 66 = .ok (.getfield 23, 3) := by decide +kernel
theorem d_X5_trace_69 : decode cX5_trace 69 = .ok (.iload_n 2, 1) := by decide +kernel
theorem d_X5_trace_70 : decode cX5_trace 70 = .ok (.aaload, 1) := by decide +kernel
theorem d_X5_trace_71 : decode cX5_trace 71 = .ok (.iload_n 3, 1) := by decide +kernel
theorem d_X5_trace_72 : decode cX5_trace 72 = .ok (.aload_n 0, 1) := by decide +kernel
theorem d_X5_trace_73 : decode cX5_trace 73 = .ok (.getfield 23, 3) := by decide +kernel
theorem d_X5_trace_76 : decode cX5_trace 76 = .ok (.iload_n 2, 1) := by decide +kernel
theorem d_X5_trace_77 : decode cX5_trace 77 = .ok (.aaload, 1) := by decide +kernel
theorem d_X5_trace_78 : decode cX5_trace 78 = .ok (.iload_n 3, 1) := by decide +kernel
theorem d_X5_trace_79 : decode cX5_trace 79 = .ok (.iaload, 1) := by decide +kernel
theorem d_X5_trace_80 : decode cX5_trace 80 = .ok (.aload_n 0, 1) := by decide +kernel
theorem d_X5_trace_81 : decode cX5_trace 81 = .ok (.getfield 23, 3) := by decide +kernel
theorem d_X5_trace_84 : decode cX5_trace 84 = .ok (.iload_n 2, 1) := by decide +kernel
theorem d_X5_trace_85 : decode cX5_trace 85 = .ok (.aaload, 1) := by decide +kernel
theorem d_X5_trace_86 : decode cX5_trace 86 = .ok (.iload_n 1, 1) := by decide +kernel
theorem d_X5_trace_87 : decode cX5_trace 87 = .ok (.iaload, 1) := by decide +kernel
theorem d_X5_trace_88 : decode cX5_trace 88 = .ok (.aload_n 0, 1) := by decide +kernel
theorem d_X5_trace_89 : decode cX5_trace 89 = .ok (.getfield 23, 3) := by decide +kernel
theorem d_X5_trace_92 : decode cX5_trace 92 = .ok (.iload_n 1, 1) := by decide +kernel
theorem d_X5_trace_93 : decode cX5_trace 93 = .ok (.aaload, 1) := by decide +kernel
theorem d_X5_trace_94 : decode cX5_trace 94 = .ok (.iload_n 3, 1) := by decide +kernel
theorem d_X5_trace_95 : decode cX5_trace 95 = .ok (.iaload, 1) := by decide +kernel
theorem d_X5_trace_96 : decode cX5_trace 96 = .ok (.invokestatic 73, 3) := by decide +kernel
theorem d_X5_trace_99 : decode cX5_trace 99 = .ok (.invokestatic 52, 3) := by decide +kernel
theorem d_X5_trace_102 : decode cX5_trace 102 = .ok (.iastore, 1) := by decide +kernel
theorem d_X5_trace_103 : decode cX5_trace 103 = .ok (.iinc 3 1, 3) := by decide +kernel
theorem d_X5_trace_106 : decode cX5_trace 106 = .ok (.goto (-49), 3) := by decide +kernel
theorem d_X5_trace_109 : decode cX5_trace 109 = .ok (.iinc 2 1, 3) := by decide +kernel
theorem d_X5_trace_112 : decode cX5_trace 112 = .ok (.goto (-65), 3) := by decide +kernel
theorem d_X5_trace_115 : decode cX5_trace 115 = .ok (.iinc 1 1, 3) := by decide +kernel
theorem d_X5_trace_118 : decode cX5_trace 118 = .ok (.goto (-81), 3) := by decide +kernel
theorem d_X5_trace_121 : decode cX5_trace 121 = .ok (.iconst 0, 1) := by decide +kernel
theorem d_X5_trace_122 : decode cX5_trace 122 = .ok (.istore_n 1, 1) := by decide +kernel
theorem d_X5_trace_123 : decode cX5_trace 123 = .ok (.iload_n 1, 1) := by decide +kernel
theorem d_X5_trace_124 : decode cX5_trace 124 = .ok (.iconst 3, 1) := by decide +kernel
theorem d_X5_trace_125 : decode cX5_trace 125 = .ok (.if_icmp .ge 39, 3) := by decide +kernel
theorem d_X5_trace_128 : decode cX5_trace 128 = .ok (.iconst 0, 1) := by decide +kernel
theorem d_X5_trace_129 : decode cX5_trace 129 = .ok (.istore_n 2, 1) := by decide +kernel
theorem d_X5_trace_130 : decode cX5_trace 130 = .ok (.iload_n 2, 1) := by decide +kernel
theorem d_X5_trace_131 : decode cX5_trace 131 = .ok (.aload_n 0, 1) := by decide +kernel
theorem d_X5_trace_132 : decode cX5_trace 132 = .ok (.getfield 29, 3) := by decide +kernel
theorem d_X5_trace_135 : decode cX5_trace 135 = .ok (.if_icmp .ge 23, 3) := by decide +kernel
theorem d_X5_trace_138 : decode cX5_trace 138 = .ok (.aload_n 0, 1) := by decide +kernel
theorem d_X5_trace_139 : decode cX5_trace 139 = .ok (.getfield 26, 3) := by decide +kernel
theorem d_X5_trace_142 : decode cX5_trace 142 = .ok (.iload_n 1, 1) := by decide +kernel
theorem d_X5_trace_143 : decode cX5_trace 143 = .ok (.aaload, 1) := by decide +kernel
theorem d_X5_trace_144 : decode cX5_trace 144 = .ok (.iload_n 2, 1) := by decide +kernel
theorem d_X5_trace_145 : decode cX5_trace 145 = .ok (.aload_n 0, 1) := by decide +kernel
theorem d_X5_trace_146 : decode cX5_trace 146 = .ok (.iload_n 1, 1) := by decide +kernel
theorem d_X5_trace_147 : decode cX5_trace 147 = .ok (.iload_n 2, 1) := by decide +kernel
theorem d_X5_trace_148 : decode cX5_trace 148 = .ok (.invokevirtual 76, 3) := by decide +kernel
theorem d_X5_trace_151 : decode cX5_trace 151 = .ok (.iastore, 1) := by decide +kernel
theorem d_X5_trace_152 : decode cX5_trace 152 = .ok (.iinc 2 1, 3) := by decide +kernel
theorem d_X5_trace_155 : decode cX5_trace 155 = .ok (.goto (-25), 3) := by decide +kernel
theorem d_X5_trace_158 : decode cX5_trace 158 = .ok (.iinc 1 1, 3) := by decide +kernel
theorem d_X5_trace_161 : decode cX5_trace 161 = .ok (.goto (-38), 3) := by decide +kernel
theorem d_X5_trace_164 : decode cX5_trace 164 = .ok (.return_, 1) := by decide +kernel
theorem b_X5_trace_0 {X : cX} {d : Nat} {μ : mM} {K : Option Value → mM → Prop} {r0 : Nat} (h : G X (Rm (d + 1)) mX5_trace 2 [(0, .ref r0), (1, .int 0)] [] μ 0 0 K) : G X (Rm (d + 1)) mX5_trace 0 [(0, .ref r0)] [] μ 0 0 K := by
  refine G_iconst d_X5_trace_0 ic_0 ?_
  refine G_istore_n (L' := [(1, .int 0), (0, .ref r0)]) d_X5_trace_1 rfl (by decide) rfl ?_
  refine G_sub (L' := [(0, .ref r0), (1, .int 0)]) [1, 0] rfl ?_
  exact h
theorem b_X5_trace_2 {X : cX} {d : Nat} {μ : mM} {K : Option Value → mM → Prop} {r0 : Nat} {i1 : Nat} (w5_r0 : WF5 μ r0) (h : (iv μ r0 0) ≤ (nI i1) → G X (Rm (d + 1)) mX5_trace 37 [(0, .ref r0), (1, .int 0)] [] μ 0 0 K) (hb : ¬ (iv μ r0 0) ≤ (nI i1) → i1 < 6) (h_2 : ¬ (iv μ r0 0) ≤ (nI i1) → G X (Rm (d + 1)) mX5_trace 2 [(0, .ref r0), (1, .int (nI (i1 + 1)))] [] (cpI μ (r0 + 7 + i1) 0 (r0 + 14 + i1) 0 6) 0 0 K) : G X (Rm (d + 1)) mX5_trace 2 [(0, .ref r0), (1, .int (nI i1))] [] μ 0 0 K := by
  refine G_iload_n d_X5_trace_2 rfl 1 rfl ?_
  refine G_aload_n d_X5_trace_3 rfl 0 rfl ?_
  refine G_getI 5 0 (w5_kd w5_r0) cok5 (by decide) rfl fl_X5_29 d_X5_trace_4 ?_
  refine G_icmp_ge (tgt := 35) d_X5_trace_7 rfl (fun c0 => ?_) (fun c0 => ?_)
  ·
    refine G_iconst d_X5_trace_35 ic_0 ?_
    refine G_istore_n (L' := [(1, .int 0), (0, .ref r0)]) d_X5_trace_36 rfl (by decide) rfl ?_
    refine G_sub (L' := [(0, .ref r0), (1, .int 0)]) [1, 0] rfl ?_
    exact (h c0)
  ·
    refine G_aload_n d_X5_trace_10 rfl 0 rfl ?_
    refine G_getR (r := r0 + 6) 5 3 (w5_kd w5_r0) (w5_f3 w5_r0) cok5 (by decide) rfl fl_X5_20 d_X5_trace_11 ?_
    refine G_iload_n d_X5_trace_14 rfl 1 rfl ?_
    refine G_aaldA (r := r0 + 7 + i1) i1 (w5_k3 w5_r0) rfl (hb c0) (w5_r3 w5_r0 i1 (hb c0)) d_X5_trace_15 ?_
    refine G_iconst d_X5_trace_16 ic_0 ?_
    refine G_aload_n d_X5_trace_17 rfl 0 rfl ?_
    refine G_getR (r := r0 + 13) 5 4 (w5_kd w5_r0) (w5_f4 w5_r0) cok5 (by decide) rfl fl_X5_23 d_X5_trace_18 ?_
    refine G_iload_n d_X5_trace_21 rfl 1 rfl ?_
    refine G_aaldA (r := r0 + 14 + i1) i1 (w5_k4 w5_r0) rfl (hb c0) (w5_r4 w5_r0 i1 (hb c0)) d_X5_trace_22 ?_
    refine G_iconst d_X5_trace_23 ic_0 ?_
    refine G_bipush d_X5_trace_24 bp_6 ?_
    refine G_copy (sp := 0) (dp := 0) (n := 6) (w5_q3 w5_r0 i1 (hb c0)) (w5_q4 w5_r0 i1 (hb c0)) rfl rfl rfl (by decide) (by decide) ml_X5_39 rb_Rm (Nat.le_of_ble_eq_true rfl) d_X5_trace_26 ?_
    refine G_iinc (L' := [(1, .int (nI (i1 + 1))), (0, .ref r0)]) d_X5_trace_29 1 rfl (inc1 i1) (by decide) rfl ?_
    refine G_goto (tgt := 2) d_X5_trace_32 rfl ?_
    refine G_sub (L' := [(0, .ref r0), (1, .int (nI (i1 + 1)))]) [1, 0] rfl ?_
    exact (h_2 c0)
theorem b_X5_trace_37 {X : cX} {d : Nat} {μ : mM} {K : Option Value → mM → Prop} {r0 : Nat} {l1 : Int32} (w5_r0 : WF5 μ r0) (h : (iv μ r0 0) ≤ l1 → G X (Rm (d + 1)) mX5_trace 123 [(0, .ref r0), (1, .int 0)] [] μ 0 0 K) (h_2 : ¬ (iv μ r0 0) ≤ l1 → G X (Rm (d + 1)) mX5_trace 47 [(0, .ref r0), (1, .int l1), (2, .int 0)] [] μ 0 0 K) : G X (Rm (d + 1)) mX5_trace 37 [(0, .ref r0), (1, .int l1)] [] μ 0 0 K := by
  refine G_iload_n d_X5_trace_37 rfl 1 rfl ?_
  refine G_aload_n d_X5_trace_38 rfl 0 rfl ?_
  refine G_getI 5 0 (w5_kd w5_r0) cok5 (by decide) rfl fl_X5_29 d_X5_trace_39 ?_
  refine G_icmp_ge (tgt := 121) d_X5_trace_42 rfl (fun c0 => ?_) (fun c0 => ?_)
  ·
    refine G_iconst d_X5_trace_121 ic_0 ?_
    refine G_istore_n (L' := [(1, .int 0), (0, .ref r0)]) d_X5_trace_122 rfl (by decide) rfl ?_
    refine G_sub (L' := [(0, .ref r0), (1, .int 0)]) [1, 0] rfl ?_
    exact (h c0)
  ·
    refine G_iconst d_X5_trace_45 ic_0 ?_
    refine G_istore_n (L' := [(2, .int 0), (0, .ref r0), (1, .int l1)]) d_X5_trace_46 rfl (by decide) rfl ?_
    refine G_sub (L' := [(0, .ref r0), (1, .int l1), (2, .int 0)]) [1, 2, 0] rfl ?_
    exact (h_2 c0)
theorem b_X5_trace_47 {X : cX} {d : Nat} {μ : mM} {K : Option Value → mM → Prop} {r0 : Nat} {i1 : Nat} {l2 : Int32} (w5_r0 : WF5 μ r0) (h : (iv μ r0 0) ≤ l2 → G X (Rm (d + 1)) mX5_trace 37 [(0, .ref r0), (1, .int (nI (i1 + 1)))] [] μ 0 0 K) (h_2 : ¬ (iv μ r0 0) ≤ l2 → G X (Rm (d + 1)) mX5_trace 57 [(0, .ref r0), (1, .int (nI i1)), (2, .int l2), (3, .int 0)] [] μ 0 0 K) : G X (Rm (d + 1)) mX5_trace 47 [(0, .ref r0), (1, .int (nI i1)), (2, .int l2)] [] μ 0 0 K := by
  refine G_iload_n d_X5_trace_47 rfl 2 rfl ?_
  refine G_aload_n d_X5_trace_48 rfl 0 rfl ?_
  refine G_getI 5 0 (w5_kd w5_r0) cok5 (by decide) rfl fl_X5_29 d_X5_trace_49 ?_
  refine G_icmp_ge (tgt := 115) d_X5_trace_52 rfl (fun c0 => ?_) (fun c0 => ?_)
  ·
    refine G_iinc (L' := [(1, .int (nI (i1 + 1))), (0, .ref r0), (2, .int l2)]) d_X5_trace_115 1 rfl (inc1 i1) (by decide) rfl ?_
    refine G_goto (tgt := 37) d_X5_trace_118 rfl ?_
    refine G_sub (L' := [(0, .ref r0), (1, .int (nI (i1 + 1)))]) [1, 0] rfl ?_
    exact (h c0)
  ·
    refine G_iconst d_X5_trace_55 ic_0 ?_
    refine G_istore_n (L' := [(3, .int 0), (0, .ref r0), (1, .int (nI i1)), (2, .int l2)]) d_X5_trace_56 rfl (by decide) rfl ?_
    refine G_sub (L' := [(0, .ref r0), (1, .int (nI i1)), (2, .int l2), (3, .int 0)]) [1, 2, 3, 0] rfl ?_
    exact (h_2 c0)
theorem b_X5_trace_57 {X : cX} {d : Nat} {μ : mM} {K : Option Value → mM → Prop} {r0 : Nat} {i1 : Nat} {i2 : Nat} {i3 : Nat} (w5_r0 : WF5 μ r0) (h : (iv μ r0 0) ≤ (nI i3) → G X (Rm (d + 1)) mX5_trace 47 [(0, .ref r0), (1, .int (nI i1)), (2, .int (nI (i2 + 1)))] [] μ 0 0 K) (hb : ¬ (iv μ r0 0) ≤ (nI i3) → i2 < 6) (hb_2 : ¬ (iv μ r0 0) ≤ (nI i3) → i3 < 6) (hb_3 : ¬ (iv μ r0 0) ≤ (nI i3) → i1 < 6) (h_2 : ¬ (iv μ r0 0) ≤ (nI i3) → G X (Rm (d + 1)) mX5_trace 57 [(0, .ref r0), (1, .int (nI i1)), (2, .int (nI i2)), (3, .int (nI (i3 + 1)))] [] (wi μ (r0 + 14 + i2) i3 (if iv μ (r0 + 14 + i2) i3 < (if iv μ (r0 + 14 + i1) i3 < iv μ (r0 + 14 + i2) i1 then iv μ (r0 + 14 + i1) i3 else iv μ (r0 + 14 + i2) i1) then (if iv μ (r0 + 14 + i1) i3 < iv μ (r0 + 14 + i2) i1 then iv μ (r0 + 14 + i1) i3 else iv μ (r0 + 14 + i2) i1) else iv μ (r0 + 14 + i2) i3)) 0 0 K) : G X (Rm (d + 1)) mX5_trace 57 [(0, .ref r0), (1, .int (nI i1)), (2, .int (nI i2)), (3, .int (nI i3))] [] μ 0 0 K := by
  refine G_iload_n d_X5_trace_57 rfl 3 rfl ?_
  refine G_aload_n d_X5_trace_58 rfl 0 rfl ?_
  refine G_getI 5 0 (w5_kd w5_r0) cok5 (by decide) rfl fl_X5_29 d_X5_trace_59 ?_
  refine G_icmp_ge (tgt := 109) d_X5_trace_62 rfl (fun c0 => ?_) (fun c0 => ?_)
  ·
    refine G_iinc (L' := [(2, .int (nI (i2 + 1))), (0, .ref r0), (1, .int (nI i1)), (3, .int (nI i3))]) d_X5_trace_109 2 rfl (inc1 i2) (by decide) rfl ?_
    refine G_goto (tgt := 47) d_X5_trace_112 rfl ?_
    refine G_sub (L' := [(0, .ref r0), (1, .int (nI i1)), (2, .int (nI (i2 + 1)))]) [1, 2, 0] rfl ?_
    exact (h c0)
  ·
    refine G_aload_n d_X5_trace_65 rfl 0 rfl ?_
    refine G_getR (r := r0 + 13) 5 4 (w5_kd w5_r0) (w5_f4 w5_r0) cok5 (by decide) rfl fl_X5_23 d_X5_trace_66 ?_
    refine G_iload_n d_X5_trace_69 rfl 2 rfl ?_
    refine G_aaldA (r := r0 + 14 + i2) i2 (w5_k4 w5_r0) rfl (hb c0) (w5_r4 w5_r0 i2 (hb c0)) d_X5_trace_70 ?_
    refine G_iload_n d_X5_trace_71 rfl 3 rfl ?_
    refine G_aload_n d_X5_trace_72 rfl 0 rfl ?_
    refine G_getR (r := r0 + 13) 5 4 (w5_kd w5_r0) (w5_f4 w5_r0) cok5 (by decide) rfl fl_X5_23 d_X5_trace_73 ?_
    refine G_iload_n d_X5_trace_76 rfl 2 rfl ?_
    refine G_aaldA (r := r0 + 14 + i2) i2 (w5_k4 w5_r0) rfl (hb c0) (w5_r4 w5_r0 i2 (hb c0)) d_X5_trace_77 ?_
    refine G_iload_n d_X5_trace_78 rfl 3 rfl ?_
    refine G_iald i3 (w5_q4 w5_r0 i2 (hb c0)) rfl (hb_2 c0) d_X5_trace_79 ?_
    refine G_aload_n d_X5_trace_80 rfl 0 rfl ?_
    refine G_getR (r := r0 + 13) 5 4 (w5_kd w5_r0) (w5_f4 w5_r0) cok5 (by decide) rfl fl_X5_23 d_X5_trace_81 ?_
    refine G_iload_n d_X5_trace_84 rfl 2 rfl ?_
    refine G_aaldA (r := r0 + 14 + i2) i2 (w5_k4 w5_r0) rfl (hb c0) (w5_r4 w5_r0 i2 (hb c0)) d_X5_trace_85 ?_
    refine G_iload_n d_X5_trace_86 rfl 1 rfl ?_
    refine G_iald i1 (w5_q4 w5_r0 i2 (hb c0)) rfl (hb_3 c0) d_X5_trace_87 ?_
    refine G_aload_n d_X5_trace_88 rfl 0 rfl ?_
    refine G_getR (r := r0 + 13) 5 4 (w5_kd w5_r0) (w5_f4 w5_r0) cok5 (by decide) rfl fl_X5_23 d_X5_trace_89 ?_
    refine G_iload_n d_X5_trace_92 rfl 1 rfl ?_
    refine G_aaldA (r := r0 + 14 + i1) i1 (w5_k4 w5_r0) rfl (hb_3 c0) (w5_r4 w5_r0 i1 (hb_3 c0)) d_X5_trace_93 ?_
    refine G_iload_n d_X5_trace_94 rfl 3 rfl ?_
    refine G_iald i3 (w5_q4 w5_r0 i1 (hb_3 c0)) rfl (hb_2 c0) d_X5_trace_95 ?_
    refine G_min ml_X5_73 rb_Rm (Nat.le_of_ble_eq_true rfl) d_X5_trace_96 ?_
    refine G_max ml_X5_52 rb_Rm (Nat.le_of_ble_eq_true rfl) d_X5_trace_99 ?_
    refine G_iast i3 (w5_q4 w5_r0 i2 (hb c0)) rfl (hb_2 c0) d_X5_trace_102 ?_
    refine G_iinc (L' := [(3, .int (nI (i3 + 1))), (0, .ref r0), (1, .int (nI i1)), (2, .int (nI i2))]) d_X5_trace_103 3 rfl (inc1 i3) (by decide) rfl ?_
    refine G_goto (tgt := 57) d_X5_trace_106 rfl ?_
    refine G_sub (L' := [(0, .ref r0), (1, .int (nI i1)), (2, .int (nI i2)), (3, .int (nI (i3 + 1)))]) [1, 2, 3, 0] rfl ?_
    exact (h_2 c0)
theorem b_X5_trace_123 {X : cX} {d : Nat} {μ : mM} {K : Option Value → mM → Prop} {r0 : Nat} {l1 : Int32} (hK : (3 : Int32) ≤ l1 → K none μ) (h : ¬ (3 : Int32) ≤ l1 → G X (Rm (d + 1)) mX5_trace 130 [(0, .ref r0), (1, .int l1), (2, .int 0)] [] μ 0 0 K) : G X (Rm (d + 1)) mX5_trace 123 [(0, .ref r0), (1, .int l1)] [] μ 0 0 K := by
  refine G_iload_n d_X5_trace_123 rfl 1 rfl ?_
  refine G_iconst d_X5_trace_124 ic_3 ?_
  refine G_icmp_ge (tgt := 164) d_X5_trace_125 rfl (fun c0 => ?_) (fun c0 => ?_)
  ·
    exact G_vret rfl rfl rfl d_X5_trace_164 (hK c0)
  ·
    refine G_iconst d_X5_trace_128 ic_0 ?_
    refine G_istore_n (L' := [(2, .int 0), (0, .ref r0), (1, .int l1)]) d_X5_trace_129 rfl (by decide) rfl ?_
    refine G_sub (L' := [(0, .ref r0), (1, .int l1), (2, .int 0)]) [1, 2, 0] rfl ?_
    exact (h c0)
theorem b_X5_trace_130 {X : cX} {d : Nat} {μ : mM} {K : Option Value → mM → Prop} {r0 : Nat} {i1 : Nat} {l2 : Int32} (w5_r0 : WF5 μ r0) (h : (iv μ r0 0) ≤ l2 → G X (Rm (d + 1)) mX5_trace 123 [(0, .ref r0), (1, .int (nI (i1 + 1)))] [] μ 0 0 K) (hb : ¬ (iv μ r0 0) ≤ l2 → i1 < 3) (hc_reaching : ¬ (iv μ r0 0) ≤ l2 → Ct X (Rm d) mX5_reaching [.ref r0, .int (nI i1), .int l2] μ (fun r μ2 => G X (Rm (d + 1)) mX5_trace 151 [(0, .ref r0), (1, .int (nI i1)), (2, .int l2)] (r.toList ++ [.int l2, .ref (r0 + 21 + i1)]) μ2 0 0 K)) : G X (Rm (d + 1)) mX5_trace 130 [(0, .ref r0), (1, .int (nI i1)), (2, .int l2)] [] μ 0 0 K := by
  refine G_iload_n d_X5_trace_130 rfl 2 rfl ?_
  refine G_aload_n d_X5_trace_131 rfl 0 rfl ?_
  refine G_getI 5 0 (w5_kd w5_r0) cok5 (by decide) rfl fl_X5_29 d_X5_trace_132 ?_
  refine G_icmp_ge (tgt := 158) d_X5_trace_135 rfl (fun c0 => ?_) (fun c0 => ?_)
  ·
    refine G_iinc (L' := [(1, .int (nI (i1 + 1))), (0, .ref r0), (2, .int l2)]) d_X5_trace_158 1 rfl (inc1 i1) (by decide) rfl ?_
    refine G_goto (tgt := 123) d_X5_trace_161 rfl ?_
    refine G_sub (L' := [(0, .ref r0), (1, .int (nI (i1 + 1)))]) [1, 0] rfl ?_
    exact (h c0)
  ·
    refine G_aload_n d_X5_trace_138 rfl 0 rfl ?_
    refine G_getR (r := r0 + 20) 5 5 (w5_kd w5_r0) (w5_f5 w5_r0) cok5 (by decide) rfl fl_X5_26 d_X5_trace_139 ?_
    refine G_iload_n d_X5_trace_142 rfl 1 rfl ?_
    refine G_aaldA (r := r0 + 21 + i1) i1 (w5_k5 w5_r0) rfl (hb c0) (w5_r5 w5_r0 i1 (hb c0)) d_X5_trace_143 ?_
    refine G_iload_n d_X5_trace_144 rfl 2 rfl ?_
    refine G_aload_n d_X5_trace_145 rfl 0 rfl ?_
    refine G_iload_n d_X5_trace_146 rfl 1 rfl ?_
    refine G_iload_n d_X5_trace_147 rfl 2 rfl ?_
    refine G_callV (M' := mX5_reaching) (R' := (Rm d)) (S := [.int l2, .ref (r0 + 21 + i1)]) [.int (nI i1), .int l2] 5 (w5_kd w5_r0) cok5 rfl ok_X5_reaching ml_X5_76 pn_X5_reaching (ru_Rm (by decide)) (Nat.le_of_ble_eq_true rfl) d_X5_trace_148 ?_
    exact (hc_reaching c0)
theorem b_X5_trace_151 {X : cX} {d : Nat} {μ : mM} {K : Option Value → mM → Prop} {r0 : Nat} {l1 : Int32} {i2 : Nat} {q0 : Nat} {v1 : Int32} {v2 : Int32} {n0 : Nat} {j0 : Nat} (hk_q0 : kd μ q0 = (1, n0)) (hi_j0 : v1 = nI j0) (hb : j0 < n0) (h : G X (Rm (d + 1)) mX5_trace 130 [(0, .ref r0), (1, .int l1), (2, .int (nI (i2 + 1)))] [] (wi μ q0 j0 v2) 0 0 K) : G X (Rm (d + 1)) mX5_trace 151 [(0, .ref r0), (1, .int l1), (2, .int (nI i2))] [.int v2, .int v1, .ref q0] μ 0 0 K := by
  refine G_iast j0 hk_q0 hi_j0 hb d_X5_trace_151 ?_
  refine G_iinc (L' := [(2, .int (nI (i2 + 1))), (0, .ref r0), (1, .int l1)]) d_X5_trace_152 2 rfl (inc1 i2) (by decide) rfl ?_
  refine G_goto (tgt := 130) d_X5_trace_155 rfl ?_
  refine G_sub (L' := [(0, .ref r0), (1, .int l1), (2, .int (nI (i2 + 1)))]) [1, 2, 0] rfl ?_
  exact h
theorem d_X5_reaching_0 : decode cX5_reaching 0 = .ok (.iconst 0, 1) := by decide +kernel
theorem d_X5_reaching_1 : decode cX5_reaching 1 = .ok (.istore_n 3, 1) := by decide +kernel
theorem d_X5_reaching_2 : decode cX5_reaching 2 = .ok (.iconst 0, 1) := by decide +kernel
theorem d_X5_reaching_3 : decode cX5_reaching 3 = .ok (.istore 4, 2) := by decide +kernel
theorem d_X5_reaching_5 : decode cX5_reaching 5 = .ok (.iload 4, 2) := by decide +kernel
theorem d_X5_reaching_7 : decode cX5_reaching 7 = .ok (.aload_n 0, 1) := by decide +kernel
theorem d_X5_reaching_8 : decode cX5_reaching 8 = .ok (.getfield 29, 3) := by decide +kernel
theorem d_X5_reaching_11 : decode cX5_reaching 11 = .ok (.if_icmp .ge 49, 3) := by decide +kernel
theorem d_X5_reaching_14 : decode cX5_reaching 14 = .ok (.aload_n 0, 1) := by decide +kernel
theorem d_X5_reaching_15 : decode cX5_reaching 15 = .ok (.iload 4, 2) := by decide +kernel
theorem d_X5_reaching_17 : decode cX5_reaching 17 = .ok (.iload_n 2, 1) := by decide +kernel
theorem d_X5_reaching_18 : decode cX5_reaching 18 = .ok (.invokevirtual 79, 3) := by decide +kernel
theorem d_X5_reaching_21 : decode cX5_reaching 21 = .ok (.aload_n 0, 1) := by decide +kernel
theorem d_X5_reaching_22 : decode cX5_reaching 22 = .ok (.getfield 23, 3) := by decide +kernel
theorem d_X5_reaching_25 : decode cX5_reaching 25 = .ok (.iload 4, 2) := by decide +kernel
theorem d_X5_reaching_27 : decode cX5_reaching 27 = .ok (.aaload, 1) := by decide +kernel
theorem d_X5_reaching_28 : decode cX5_reaching 28 = .ok (.iload_n 2, 1) := by decide +kernel
theorem d_X5_reaching_29 : decode cX5_reaching 29 = .ok (.iaload, 1) := by decide +kernel
theorem d_X5_reaching_30 : decode cX5_reaching 30 = .ok (.invokestatic 52, 3) := by decide +kernel
theorem d_X5_reaching_33 : decode cX5_reaching 33 = .ok (.istore 5, 2) := by decide +kernel
theorem d_X5_reaching_35 : decode cX5_reaching 35 = .ok (.iload_n 3, 1) := by decide +kernel
theorem d_X5_reaching_36 : decode cX5_reaching 36 = .ok (.aload_n 0, 1) := by decide +kernel
theorem d_X5_reaching_37 : decode cX5_reaching 37 = .ok (.getfield 17, 3) := by decide +kernel
theorem d_X5_reaching_40 : decode cX5_reaching 40 = .ok (.iload_n 1, 1) := by decide +kernel
theorem d_X5_reaching_41 : decode cX5_reaching 41 = .ok (.aaload, 1) := by decide +kernel
theorem d_X5_reaching_42 : decode cX5_reaching 42 = .ok (.iload 4, 2) := by decide +kernel
theorem d_X5_reaching_44 : decode cX5_reaching 44 = .ok (.iaload, 1) := by decide +kernel
theorem d_X5_reaching_45 : decode cX5_reaching 45 = .ok (.iload 5, 2) := by decide +kernel
theorem d_X5_reaching_47 : decode cX5_reaching 47 = .ok (.invokestatic 73, 3) := by decide +kernel
theorem d_X5_reaching_50 : decode cX5_reaching 50 = .ok (.invokestatic 52, 3) := by decide +kernel
theorem d_X5_reaching_53 : decode cX5_reaching 53 = .ok (.istore_n 3, 1) := by decide +kernel
theorem d_X5_reaching_54 : decode cX5_reaching 54 = .ok (.iinc 4 1, 3) := by decide +kernel
theorem d_X5_reaching_57 : decode cX5_reaching 57 = .ok (.goto (-52), 3) := by decide +kernel
theorem d_X5_reaching_60 : decode cX5_reaching 60 = .ok (.iload_n 3, 1) := by decide +kernel
theorem d_X5_reaching_61 : decode cX5_reaching 61 = .ok (.ireturn, 1) := by decide +kernel
theorem b_X5_reaching_0 {X : cX} {d : Nat} {μ : mM} {K : Option Value → mM → Prop} {r0 : Nat} {l1 : Int32} {l2 : Int32} (h : G X (Rm (d + 1)) mX5_reaching 5 [(0, .ref r0), (1, .int l1), (2, .int l2), (3, .int 0), (4, .int 0)] [] μ 0 0 K) : G X (Rm (d + 1)) mX5_reaching 0 [(0, .ref r0), (1, .int l1), (2, .int l2)] [] μ 0 0 K := by
  refine G_iconst d_X5_reaching_0 ic_0 ?_
  refine G_istore_n (L' := [(3, .int 0), (0, .ref r0), (1, .int l1), (2, .int l2)]) d_X5_reaching_1 rfl (by decide) rfl ?_
  refine G_iconst d_X5_reaching_2 ic_0 ?_
  refine G_istore (L' := [(4, .int 0), (3, .int 0), (0, .ref r0), (1, .int l1), (2, .int l2)]) d_X5_reaching_3 (by decide) rfl ?_
  refine G_sub (L' := [(0, .ref r0), (1, .int l1), (2, .int l2), (3, .int 0), (4, .int 0)]) [2, 3, 4, 1, 0] rfl ?_
  exact h
theorem b_X5_reaching_5 {X : cX} {d : Nat} {μ : mM} {K : Option Value → mM → Prop} {r0 : Nat} {l1 : Int32} {l2 : Int32} {l3 : Int32} {l4 : Int32} (w5_r0 : WF5 μ r0) (hK : (iv μ r0 0) ≤ l4 → K (some (.int l3)) μ) (hc_sameness : ¬ (iv μ r0 0) ≤ l4 → Ct X (Rm d) mX5_sameness [.ref r0, .int l4, .int l2] μ (fun r μ2 => G X (Rm (d + 1)) mX5_reaching 21 [(0, .ref r0), (1, .int l1), (2, .int l2), (3, .int l3), (4, .int l4)] (r.toList ++ []) μ2 0 0 K)) : G X (Rm (d + 1)) mX5_reaching 5 [(0, .ref r0), (1, .int l1), (2, .int l2), (3, .int l3), (4, .int l4)] [] μ 0 0 K := by
  refine G_iload d_X5_reaching_5 4 rfl ?_
  refine G_aload_n d_X5_reaching_7 rfl 0 rfl ?_
  refine G_getI 5 0 (w5_kd w5_r0) cok5 (by decide) rfl fl_X5_29 d_X5_reaching_8 ?_
  refine G_icmp_ge (tgt := 60) d_X5_reaching_11 rfl (fun c0 => ?_) (fun c0 => ?_)
  ·
    refine G_iload_n d_X5_reaching_60 rfl 3 rfl ?_
    exact G_iret rfl rfl rfl d_X5_reaching_61 (hK c0)
  ·
    refine G_aload_n d_X5_reaching_14 rfl 0 rfl ?_
    refine G_iload d_X5_reaching_15 4 rfl ?_
    refine G_iload_n d_X5_reaching_17 rfl 2 rfl ?_
    refine G_callV (M' := mX5_sameness) (R' := (Rm d)) (S := []) [.int l4, .int l2] 5 (w5_kd w5_r0) cok5 rfl ok_X5_sameness ml_X5_79 pn_X5_sameness (ru_Rm (by decide)) (Nat.le_of_ble_eq_true rfl) d_X5_reaching_18 ?_
    exact (hc_sameness c0)
theorem b_X5_reaching_21 {X : cX} {d : Nat} {μ : mM} {K : Option Value → mM → Prop} {r0 : Nat} {i1 : Nat} {i2 : Nat} {l3 : Int32} {i4 : Nat} {v0 : Int32} (w5_r0 : WF5 μ r0) (hb : i4 < 6) (hb_2 : i2 < 6) (hb_3 : i1 < 3) (h : G X (Rm (d + 1)) mX5_reaching 5 [(0, .ref r0), (1, .int (nI i1)), (2, .int (nI i2)), (3, .int (if l3 < (if (if v0 < iv μ (r0 + 14 + i4) i2 then iv μ (r0 + 14 + i4) i2 else v0) < iv μ (r0 + 3 + i1) i4 then (if v0 < iv μ (r0 + 14 + i4) i2 then iv μ (r0 + 14 + i4) i2 else v0) else iv μ (r0 + 3 + i1) i4) then (if (if v0 < iv μ (r0 + 14 + i4) i2 then iv μ (r0 + 14 + i4) i2 else v0) < iv μ (r0 + 3 + i1) i4 then (if v0 < iv μ (r0 + 14 + i4) i2 then iv μ (r0 + 14 + i4) i2 else v0) else iv μ (r0 + 3 + i1) i4) else l3)), (4, .int (nI (i4 + 1)))] [] μ 0 0 K) : G X (Rm (d + 1)) mX5_reaching 21 [(0, .ref r0), (1, .int (nI i1)), (2, .int (nI i2)), (3, .int l3), (4, .int (nI i4))] [.int v0] μ 0 0 K := by
  refine G_aload_n d_X5_reaching_21 rfl 0 rfl ?_
  refine G_getR (r := r0 + 13) 5 4 (w5_kd w5_r0) (w5_f4 w5_r0) cok5 (by decide) rfl fl_X5_23 d_X5_reaching_22 ?_
  refine G_iload d_X5_reaching_25 4 rfl ?_
  refine G_aaldA (r := r0 + 14 + i4) i4 (w5_k4 w5_r0) rfl hb (w5_r4 w5_r0 i4 hb) d_X5_reaching_27 ?_
  refine G_iload_n d_X5_reaching_28 rfl 2 rfl ?_
  refine G_iald i2 (w5_q4 w5_r0 i4 hb) rfl hb_2 d_X5_reaching_29 ?_
  refine G_max ml_X5_52 rb_Rm (Nat.le_of_ble_eq_true rfl) d_X5_reaching_30 ?_
  refine G_istore (L' := [(5, .int (if v0 < iv μ (r0 + 14 + i4) i2 then iv μ (r0 + 14 + i4) i2 else v0)), (0, .ref r0), (1, .int (nI i1)), (2, .int (nI i2)), (3, .int l3), (4, .int (nI i4))]) d_X5_reaching_33 (by decide) rfl ?_
  refine G_iload_n d_X5_reaching_35 rfl 4 rfl ?_
  refine G_aload_n d_X5_reaching_36 rfl 1 rfl ?_
  refine G_getR (r := r0 + 2) 5 2 (w5_kd w5_r0) (w5_f2 w5_r0) cok5 (by decide) rfl fl_X5_17 d_X5_reaching_37 ?_
  refine G_iload_n d_X5_reaching_40 rfl 2 rfl ?_
  refine G_aaldA (r := r0 + 3 + i1) i1 (w5_k2 w5_r0) rfl hb_3 (w5_r2 w5_r0 i1 hb_3) d_X5_reaching_41 ?_
  refine G_iload d_X5_reaching_42 5 rfl ?_
  refine G_iald i4 (w5_q2 w5_r0 i1 hb_3) rfl hb d_X5_reaching_44 ?_
  refine G_iload d_X5_reaching_45 0 rfl ?_
  refine G_min ml_X5_73 rb_Rm (Nat.le_of_ble_eq_true rfl) d_X5_reaching_47 ?_
  refine G_max ml_X5_52 rb_Rm (Nat.le_of_ble_eq_true rfl) d_X5_reaching_50 ?_
  refine G_istore_n (L' := [(3, .int (if l3 < (if (if v0 < iv μ (r0 + 14 + i4) i2 then iv μ (r0 + 14 + i4) i2 else v0) < iv μ (r0 + 3 + i1) i4 then (if v0 < iv μ (r0 + 14 + i4) i2 then iv μ (r0 + 14 + i4) i2 else v0) else iv μ (r0 + 3 + i1) i4) then (if (if v0 < iv μ (r0 + 14 + i4) i2 then iv μ (r0 + 14 + i4) i2 else v0) < iv μ (r0 + 3 + i1) i4 then (if v0 < iv μ (r0 + 14 + i4) i2 then iv μ (r0 + 14 + i4) i2 else v0) else iv μ (r0 + 3 + i1) i4) else l3)), (5, .int (if v0 < iv μ (r0 + 14 + i4) i2 then iv μ (r0 + 14 + i4) i2 else v0)), (0, .ref r0), (1, .int (nI i1)), (2, .int (nI i2)), (4, .int (nI i4))]) d_X5_reaching_53 rfl (by decide) rfl ?_
  refine G_iinc (L' := [(4, .int (nI (i4 + 1))), (3, .int (if l3 < (if (if v0 < iv μ (r0 + 14 + i4) i2 then iv μ (r0 + 14 + i4) i2 else v0) < iv μ (r0 + 3 + i1) i4 then (if v0 < iv μ (r0 + 14 + i4) i2 then iv μ (r0 + 14 + i4) i2 else v0) else iv μ (r0 + 3 + i1) i4) then (if (if v0 < iv μ (r0 + 14 + i4) i2 then iv μ (r0 + 14 + i4) i2 else v0) < iv μ (r0 + 3 + i1) i4 then (if v0 < iv μ (r0 + 14 + i4) i2 then iv μ (r0 + 14 + i4) i2 else v0) else iv μ (r0 + 3 + i1) i4) else l3)), (5, .int (if v0 < iv μ (r0 + 14 + i4) i2 then iv μ (r0 + 14 + i4) i2 else v0)), (0, .ref r0), (1, .int (nI i1)), (2, .int (nI i2))]) d_X5_reaching_54 5 rfl (inc1 i4) (by decide) rfl ?_
  refine G_goto (tgt := 5) d_X5_reaching_57 rfl ?_
  refine G_sub (L' := [(0, .ref r0), (1, .int (nI i1)), (2, .int (nI i2)), (3, .int (if l3 < (if (if v0 < iv μ (r0 + 14 + i4) i2 then iv μ (r0 + 14 + i4) i2 else v0) < iv μ (r0 + 3 + i1) i4 then (if v0 < iv μ (r0 + 14 + i4) i2 then iv μ (r0 + 14 + i4) i2 else v0) else iv μ (r0 + 3 + i1) i4) then (if (if v0 < iv μ (r0 + 14 + i4) i2 then iv μ (r0 + 14 + i4) i2 else v0) < iv μ (r0 + 3 + i1) i4 then (if v0 < iv μ (r0 + 14 + i4) i2 then iv μ (r0 + 14 + i4) i2 else v0) else iv μ (r0 + 3 + i1) i4) else l3)), (4, .int (nI (i4 + 1)))]) [3, 4, 5, 1, 0] rfl ?_
  exact h
theorem d_J7_fill_53178_0 : decode cJ7_fill_53178 0 = .ok (.iconst 0, 1) := by decide +kernel
theorem d_J7_fill_53178_1 : decode cJ7_fill_53178 1 = .ok (.istore_n 2, 1) := by decide +kernel
theorem d_J7_fill_53178_2 : decode cJ7_fill_53178 2 = .ok (.aload_n 0, 1) := by decide +kernel
theorem d_J7_fill_53178_3 : decode cJ7_fill_53178 3 = .ok (.arraylength, 1) := by decide +kernel
theorem d_J7_fill_53178_4 : decode cJ7_fill_53178 4 = .ok (.istore_n 3, 1) := by decide +kernel
theorem d_J7_fill_53178_5 : decode cJ7_fill_53178 5 = .ok (.iload_n 2, 1) := by decide +kernel
theorem d_J7_fill_53178_6 : decode cJ7_fill_53178 6 = .ok (.iload_n 3, 1) := by decide +kernel
theorem d_J7_fill_53178_7 : decode cJ7_fill_53178 7 = .ok (.if_icmp .ge 13, 3) := by decide +kernel
theorem d_J7_fill_53178_10 : decode cJ7_fill_53178 10 = .ok (.aload_n 0, 1) := by decide +kernel
theorem d_J7_fill_53178_11 : decode cJ7_fill_53178 11 = .ok (.iload_n 2, 1) := by decide +kernel
theorem d_J7_fill_53178_12 : decode cJ7_fill_53178 12 = .ok (.iload_n 1, 1) := by decide +kernel
theorem d_J7_fill_53178_13 : decode cJ7_fill_53178 13 = .ok (.iastore, 1) := by decide +kernel
theorem d_J7_fill_53178_14 : decode cJ7_fill_53178 14 = .ok (.iinc 2 1, 3) := by decide +kernel
theorem d_J7_fill_53178_17 : decode cJ7_fill_53178 17 = .ok (.goto (-12), 3) := by decide +kernel
theorem d_J7_fill_53178_20 : decode cJ7_fill_53178 20 = .ok (.return_, 1) := by decide +kernel
theorem b_J7_fill_53178_0 {X : cX} {d : Nat} {μ : mM} {K : Option Value → mM → Prop} {r0 : Nat} {l1 : Int32} {n0 : Nat} (hk_r0 : kd μ r0 = (1, n0)) (h : G X (Rm d) mJ7_fill_53178 5 [(0, .ref r0), (1, .int l1), (2, .int 0), (3, .int (nI n0))] [] μ 0 0 K) : G X (Rm d) mJ7_fill_53178 0 [(0, .ref r0), (1, .int l1)] [] μ 0 0 K := by
  refine G_iconst d_J7_fill_53178_0 ic_0 ?_
  refine G_istore_n (L' := [(2, .int 0), (0, .ref r0), (1, .int l1)]) d_J7_fill_53178_1 rfl (by decide) rfl ?_
  refine G_aload_n d_J7_fill_53178_2 rfl 1 rfl ?_
  refine G_alen hk_r0 (by decide) (by decide) d_J7_fill_53178_3 ?_
  refine G_istore_n (L' := [(3, .int (nI n0)), (2, .int 0), (0, .ref r0), (1, .int l1)]) d_J7_fill_53178_4 rfl (by decide) rfl ?_
  refine G_sub (L' := [(0, .ref r0), (1, .int l1), (2, .int 0), (3, .int (nI n0))]) [2, 3, 1, 0] rfl ?_
  exact h
theorem b_J7_fill_53178_5 {X : cX} {d : Nat} {μ : mM} {K : Option Value → mM → Prop} {r0 : Nat} {l1 : Int32} {i2 : Nat} {l3 : Int32} {n0 : Nat} (hK : l3 ≤ (nI i2) → K none μ) (hk_r0 : ¬ l3 ≤ (nI i2) → kd μ r0 = (1, n0)) (hb : ¬ l3 ≤ (nI i2) → i2 < n0) (h : ¬ l3 ≤ (nI i2) → G X (Rm d) mJ7_fill_53178 5 [(0, .ref r0), (1, .int l1), (2, .int (nI (i2 + 1))), (3, .int l3)] [] (wi μ r0 i2 l1) 0 0 K) : G X (Rm d) mJ7_fill_53178 5 [(0, .ref r0), (1, .int l1), (2, .int (nI i2)), (3, .int l3)] [] μ 0 0 K := by
  refine G_iload_n d_J7_fill_53178_5 rfl 2 rfl ?_
  refine G_iload_n d_J7_fill_53178_6 rfl 3 rfl ?_
  refine G_icmp_ge (tgt := 20) d_J7_fill_53178_7 rfl (fun c0 => ?_) (fun c0 => ?_)
  ·
    exact G_vret rfl rfl rfl d_J7_fill_53178_20 (hK c0)
  ·
    refine G_aload_n d_J7_fill_53178_10 rfl 0 rfl ?_
    refine G_iload_n d_J7_fill_53178_11 rfl 2 rfl ?_
    refine G_iload_n d_J7_fill_53178_12 rfl 1 rfl ?_
    refine G_iast i2 (hk_r0 c0) rfl (hb c0) d_J7_fill_53178_13 ?_
    refine G_iinc (L' := [(2, .int (nI (i2 + 1))), (0, .ref r0), (1, .int l1), (3, .int l3)]) d_J7_fill_53178_14 2 rfl (inc1 i2) (by decide) rfl ?_
    refine G_goto (tgt := 5) d_J7_fill_53178_17 rfl ?_
    refine G_sub (L' := [(0, .ref r0), (1, .int l1), (2, .int (nI (i2 + 1))), (3, .int l3)]) [1, 2, 0, 3] rfl ?_
    exact (h c0)
