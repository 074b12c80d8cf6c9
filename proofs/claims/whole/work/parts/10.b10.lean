theorem d_X4_tellLetter_0 : decode cX4_tellLetter 0 = .ok (.aload_n 1, 1) := by decide +kernel
theorem d_X4_tellLetter_1 : decode cX4_tellLetter 1 = .ok (.ldc 132, 2) := by decide +kernel
theorem d_X4_tellLetter_3 : decode cX4_tellLetter 3 = .ok (.invokevirtual 64, 3) := by decide +kernel
theorem d_X4_tellLetter_6 : decode cX4_tellLetter 6 = .ok (.istore_n 3, 1) := by decide +kernel
theorem d_X4_tellLetter_7 : decode cX4_tellLetter 7 = .ok (.aload_n 1, 1) := by decide +kernel
theorem d_X4_tellLetter_8 : decode cX4_tellLetter 8 = .ok (.invokevirtual 100, 3) := by decide +kernel
theorem d_X4_tellLetter_11 : decode cX4_tellLetter 11 = .ok (.aload_n 1, 1) := by decide +kernel
theorem d_X4_tellLetter_12 : decode cX4_tellLetter 12 = .ok (.bipush 97, 2) := by decide +kernel
theorem d_X4_tellLetter_14 : decode cX4_tellLetter 14 = .ok (.invokevirtual 150, 3) := by decide +kernel
theorem d_X4_tellLetter_17 : decode cX4_tellLetter 17 = .ok (.istore 4, 2) := by decide +kernel
theorem d_X4_tellLetter_19 : decode cX4_tellLetter 19 = .ok (.iload 4, 2) := by decide +kernel
theorem d_X4_tellLetter_21 : decode cX4_tellLetter 21 = .ok (.ifCond .ge 9, 3) := by decide +kernel
theorem d_X4_tellLetter_24 : decode cX4_tellLetter 24 = .ok (.aload_n 0, 1) := by decide +kernel
theorem d_X4_tellLetter_25 : decode cX4_tellLetter 25 = .ok (.aload_n 1, 1) := by decide +kernel
theorem d_X4_tellLetter_26 : decode cX4_tellLetter 26 = .ok (.invokevirtual 89, 3) := by decide +kernel
theorem d_X4_tellLetter_29 : decode cX4_tellLetter 29 = .ok (.ireturn, 1) := by decide +kernel
theorem d_X4_tellLetter_30 : decode cX4_tellLetter 30 = .ok (.aload_n 2, 1) := by decide +kernel
theorem d_X4_tellLetter_31 : decode cX4_tellLetter 31 = .ok (.iload 4, 2) := by decide +kernel
theorem d_X4_tellLetter_33 : decode cX4_tellLetter 33 = .ok (.invokevirtual 154, 3) := by decide +kernel
theorem d_X4_tellLetter_36 : decode cX4_tellLetter 36 = .ok (.ifCond .lt 10, 3) := by decide +kernel
theorem d_X4_tellLetter_39 : decode cX4_tellLetter 39 = .ok (.aload_n 0, 1) := by decide +kernel
theorem d_X4_tellLetter_40 : decode cX4_tellLetter 40 = .ok (.aload_n 1, 1) := by decide +kernel
theorem d_X4_tellLetter_41 : decode cX4_tellLetter 41 = .ok (.iconst 4, 1) := by decide +kernel
theorem d_X4_tellLetter_42 : decode cX4_tellLetter 42 = .ok (.invokevirtual 55, 3) := by decide +kernel
theorem d_X4_tellLetter_45 : decode cX4_tellLetter 45 = .ok (.ireturn, 1) := by decide +kernel
theorem d_X4_tellLetter_46 : decode cX4_tellLetter 46 = .ok (.aload_n 2, 1) := by decide +kernel
theorem d_X4_tellLetter_47 : decode cX4_tellLetter 47 = .ok (.iload 4, 2) := by decide +kernel
theorem d_X4_tellLetter_49 : decode cX4_tellLetter 49 = .ok (.iload_n 3, 1) := by decide +kernel
theorem d_X4_tellLetter_50 : decode cX4_tellLetter 50 = .ok (.invokevirtual 158, 3) := by decide +kernel
theorem d_X4_tellLetter_53 : decode cX4_tellLetter 53 = .ok (.aload_n 1, 1) := by decide +kernel
theorem d_X4_tellLetter_54 : decode cX4_tellLetter 54 = .ok (.invokevirtual 100, 3) := by decide +kernel
theorem d_X4_tellLetter_57 : decode cX4_tellLetter 57 = .ok (.iconst 1, 1) := by decide +kernel
theorem d_X4_tellLetter_58 : decode cX4_tellLetter 58 = .ok (.ireturn, 1) := by decide +kernel
theorem b_X4_tellLetter_0 {X : cX} {d : Nat} {μ : mM} {K : Option Value → mM → Prop} {r0 : Nat} {r1 : Nat} {r2 : Nat} (hw9_r1 : WF9 μ r1) (hc_isName : Ct X (Rm (d + 4)) mX9_isName [.ref r1, .ref (X.2.2.2.2.1 6)] μ (fun r μ2 => G X (Rm (d + 5)) mX4_tellLetter 6 [(0, .ref r0), (1, .ref r1), (2, .ref r2)] (r.toList ++ []) μ2 0 0 K)) : G X (Rm (d + 5)) mX4_tellLetter 0 [(0, .ref r0), (1, .ref r1), (2, .ref r2)] [] μ 0 0 K := by
  refine G_aload_n d_X4_tellLetter_0 rfl 1 rfl ?_
  refine G_ldcS 6 (by decide) rfl rfl d_X4_tellLetter_1 ?_
  refine G_callV (M' := mX9_isName) (R' := (Rm (d + 4))) (S := []) [.ref (X.2.2.2.2.1 6)] 9 (w9_kd hw9_r1) cok9 rfl ok_X9_isName ml_X4_64 pn_X9_isName (ru_Rm (by decide)) (Nat.le_of_ble_eq_true rfl) d_X4_tellLetter_3 ?_
  exact hc_isName
theorem b_X4_tellLetter_6 {X : cX} {d : Nat} {μ : mM} {K : Option Value → mM → Prop} {r0 : Nat} {r1 : Nat} {r2 : Nat} {v0 : Int32} (hw9_r1 : WF9 μ r1) (hc_advance : Ct X (Rm (d + 4)) mX9_advance [.ref r1] μ (fun r μ2 => G X (Rm (d + 5)) mX4_tellLetter 11 [(0, .ref r0), (1, .ref r1), (2, .ref r2), (3, .int v0)] (r.toList ++ []) μ2 0 0 K)) : G X (Rm (d + 5)) mX4_tellLetter 6 [(0, .ref r0), (1, .ref r1), (2, .ref r2)] [.int v0] μ 0 0 K := by
  refine G_istore_n (L' := [(3, .int v0), (0, .ref r0), (1, .ref r1), (2, .ref r2)]) d_X4_tellLetter_6 rfl (by decide) rfl ?_
  refine G_aload_n d_X4_tellLetter_7 rfl 2 rfl ?_
  refine G_sub (L' := [(0, .ref r0), (1, .ref r1), (2, .ref r2), (3, .int v0)]) [1, 2, 3, 0] rfl ?_
  refine G_callV (M' := mX9_advance) (R' := (Rm (d + 4))) (S := []) [] 9 (w9_kd hw9_r1) cok9 rfl ok_X9_advance ml_X4_100 pn_X9_advance (ru_Rm (by decide)) (Nat.le_of_ble_eq_true rfl) d_X4_tellLetter_8 ?_
  exact hc_advance
theorem b_X4_tellLetter_11 {X : cX} {d : Nat} {μ : mM} {K : Option Value → mM → Prop} {r0 : Nat} {r1 : Nat} {r2 : Nat} {l3 : Int32} (hw9_r1 : WF9 μ r1) (hc_oneOfThree : Ct X (Rm (d + 4)) mX9_oneOfThree [.ref r1, .int 97] μ (fun r μ2 => G X (Rm (d + 5)) mX4_tellLetter 17 [(0, .ref r0), (1, .ref r1), (2, .ref r2), (3, .int l3)] (r.toList ++ []) μ2 0 0 K)) : G X (Rm (d + 5)) mX4_tellLetter 11 [(0, .ref r0), (1, .ref r1), (2, .ref r2), (3, .int l3)] [] μ 0 0 K := by
  refine G_aload_n d_X4_tellLetter_11 rfl 1 rfl ?_
  refine G_bipush d_X4_tellLetter_12 bp_97 ?_
  refine G_callV (M' := mX9_oneOfThree) (R' := (Rm (d + 4))) (S := []) [.int 97] 9 (w9_kd hw9_r1) cok9 rfl ok_X9_oneOfThree ml_X4_150 pn_X9_oneOfThree (ru_Rm (by decide)) (Nat.le_of_ble_eq_true rfl) d_X4_tellLetter_14 ?_
  exact hc_oneOfThree
theorem b_X4_tellLetter_17 {X : cX} {d : Nat} {μ : mM} {K : Option Value → mM → Prop} {r0 : Nat} {r1 : Nat} {r2 : Nat} {l3 : Int32} {v0 : Int32} (hw3_r2 : WF3 μ r2) (hc_placeOf : 0 ≤ v0 → Ct X (Rm (d + 4)) mX3_placeOf [.ref r2, .int v0] μ (fun r μ2 => G X (Rm (d + 5)) mX4_tellLetter 36 [(0, .ref r0), (1, .ref r1), (2, .ref r2), (3, .int l3), (4, .int v0)] (r.toList ++ []) μ2 0 0 K)) (hw4_r0 : WF4 μ r0) (hc_refuseToken : ¬ 0 ≤ v0 → Ct X (Rm (d + 4)) mX4_refuseToken [.ref r0, .ref r1] μ (fun r μ2 => G X (Rm (d + 5)) mX4_tellLetter 29 [] (r.toList ++ []) μ2 0 0 K)) : G X (Rm (d + 5)) mX4_tellLetter 17 [(0, .ref r0), (1, .ref r1), (2, .ref r2), (3, .int l3)] [.int v0] μ 0 0 K := by
  refine G_istore (L' := [(4, .int v0), (0, .ref r0), (1, .ref r1), (2, .ref r2), (3, .int l3)]) d_X4_tellLetter_17 (by decide) rfl ?_
  refine G_iload d_X4_tellLetter_19 0 rfl ?_
  refine G_if_ge (tgt := 30) d_X4_tellLetter_21 rfl (fun c0 => ?_) (fun c0 => ?_)
  ·
    refine G_aload_n d_X4_tellLetter_30 rfl 3 rfl ?_
    refine G_iload d_X4_tellLetter_31 0 rfl ?_
    refine G_sub (L' := [(0, .ref r0), (1, .ref r1), (2, .ref r2), (3, .int l3), (4, .int v0)]) [1, 2, 3, 4, 0] rfl ?_
    refine G_callV (M' := mX3_placeOf) (R' := (Rm (d + 4))) (S := []) [.int v0] 3 (w3_kd hw3_r2) cok3 rfl ok_X3_placeOf ml_X4_154 pn_X3_placeOf (ru_Rm (by decide)) (Nat.le_of_ble_eq_true rfl) d_X4_tellLetter_33 ?_
    exact (hc_placeOf c0)
  ·
    refine G_aload_n d_X4_tellLetter_24 rfl 1 rfl ?_
    refine G_aload_n d_X4_tellLetter_25 rfl 2 rfl ?_
    refine G_sub (L' := []) [] rfl ?_
    refine G_callV (M' := mX4_refuseToken) (R' := (Rm (d + 4))) (S := []) [.ref r1] 4 (w4_kd hw4_r0) cok4 rfl ok_X4_refuseToken ml_X4_89 pn_X4_refuseToken (ru_Rm (by decide)) (Nat.le_of_ble_eq_true rfl) d_X4_tellLetter_26 ?_
    exact (hc_refuseToken c0)
theorem b_X4_tellLetter_29 {X : cX} {d : Nat} {μ : mM} {K : Option Value → mM → Prop} {v0 : Int32} (hK : K (some (.int v0)) μ) (hz : v0 = 0 ∨ v0 = 1) : G X (Rm (d + 5)) mX4_tellLetter 29 [] [.int v0] μ 0 0 K := by
  exact G_zret rfl (nar_b hz) rfl rfl d_X4_tellLetter_29 hK
theorem b_X4_tellLetter_36 {X : cX} {d : Nat} {μ : mM} {K : Option Value → mM → Prop} {r0 : Nat} {r1 : Nat} {r2 : Nat} {l3 : Int32} {l4 : Int32} {v0 : Int32} (hw3_r2 : WF3 μ r2) (hc_putLetter : v0 < 0 → Ct X (Rm (d + 4)) mX3_putLetter [.ref r2, .int l4, .int l3] μ (fun r μ2 => G X (Rm (d + 5)) mX4_tellLetter 53 [(1, .ref r1)] (r.toList ++ []) μ2 0 0 K)) (hw4_r0 : WF4 μ r0) (hc_refuse : ¬ v0 < 0 → Ct X (Rm (d + 4)) mX4_refuse [.ref r0, .ref r1, .int 4] μ (fun r μ2 => G X (Rm (d + 5)) mX4_tellLetter 45 [] (r.toList ++ []) μ2 0 0 K)) : G X (Rm (d + 5)) mX4_tellLetter 36 [(0, .ref r0), (1, .ref r1), (2, .ref r2), (3, .int l3), (4, .int l4)] [.int v0] μ 0 0 K := by
  refine G_if_lt (tgt := 46) d_X4_tellLetter_36 rfl (fun c0 => ?_) (fun c0 => ?_)
  ·
    refine G_aload_n d_X4_tellLetter_46 rfl 2 rfl ?_
    refine G_iload d_X4_tellLetter_47 4 rfl ?_
    refine G_iload_n d_X4_tellLetter_49 rfl 3 rfl ?_
    refine G_sub (L' := [(1, .ref r1)]) [1] rfl ?_
    refine G_callV (M' := mX3_putLetter) (R' := (Rm (d + 4))) (S := []) [.int l4, .int l3] 3 (w3_kd hw3_r2) cok3 rfl ok_X3_putLetter ml_X4_158 pn_X3_putLetter (ru_Rm (by decide)) (Nat.le_of_ble_eq_true rfl) d_X4_tellLetter_50 ?_
    exact (hc_putLetter c0)
  ·
    refine G_aload_n d_X4_tellLetter_39 rfl 0 rfl ?_
    refine G_aload_n d_X4_tellLetter_40 rfl 1 rfl ?_
    refine G_iconst d_X4_tellLetter_41 ic_4 ?_
    refine G_sub (L' := []) [] rfl ?_
    refine G_callV (M' := mX4_refuse) (R' := (Rm (d + 4))) (S := []) [.ref r1, .int 4] 4 (w4_kd hw4_r0) cok4 rfl ok_X4_refuse ml_X4_55 pn_X4_refuse (ru_Rm (by decide)) (Nat.le_of_ble_eq_true rfl) d_X4_tellLetter_42 ?_
    exact (hc_refuse c0)
theorem b_X4_tellLetter_45 {X : cX} {d : Nat} {μ : mM} {K : Option Value → mM → Prop} {v0 : Int32} (hK : K (some (.int v0)) μ) (hz : v0 = 0 ∨ v0 = 1) : G X (Rm (d + 5)) mX4_tellLetter 45 [] [.int v0] μ 0 0 K := by
  exact G_zret rfl (nar_b hz) rfl rfl d_X4_tellLetter_45 hK
theorem b_X4_tellLetter_53 {X : cX} {d : Nat} {μ : mM} {K : Option Value → mM → Prop} {r1 : Nat} (hw9_r1 : WF9 μ r1) (hc_advance : Ct X (Rm (d + 4)) mX9_advance [.ref r1] μ (fun r μ2 => G X (Rm (d + 5)) mX4_tellLetter 57 [] (r.toList ++ []) μ2 0 0 K)) : G X (Rm (d + 5)) mX4_tellLetter 53 [(1, .ref r1)] [] μ 0 0 K := by
  refine G_aload_n d_X4_tellLetter_53 rfl 0 rfl ?_
  refine G_sub (L' := []) [] rfl ?_
  refine G_callV (M' := mX9_advance) (R' := (Rm (d + 4))) (S := []) [] 9 (w9_kd hw9_r1) cok9 rfl ok_X9_advance ml_X4_100 pn_X9_advance (ru_Rm (by decide)) (Nat.le_of_ble_eq_true rfl) d_X4_tellLetter_54 ?_
  exact hc_advance
theorem b_X4_tellLetter_57 {X : cX} {d : Nat} {μ : mM} {K : Option Value → mM → Prop}  (hK : K (some (.int 1)) μ) : G X (Rm (d + 5)) mX4_tellLetter 57 [] [] μ 0 0 K := by
  refine G_iconst d_X4_tellLetter_57 ic_1 ?_
  exact G_zret rfl rfl rfl rfl d_X4_tellLetter_58 hK
theorem d_X4_itemKind_0 : decode cX4_itemKind 0 = .ok (.aload_n 0, 1) := by decide +kernel
theorem d_X4_itemKind_1 : decode cX4_itemKind 1 = .ok (.ldc 74, 2) := by decide +kernel
theorem d_X4_itemKind_3 : decode cX4_itemKind 3 = .ok (.invokevirtual 64, 3) := by decide +kernel
theorem d_X4_itemKind_6 : decode cX4_itemKind 6 = .ok (.ifCond .eq 5, 3) := by decide +kernel
theorem d_X4_itemKind_9 : decode cX4_itemKind 9 = .ok (.iconst 0, 1) := by decide +kernel
theorem d_X4_itemKind_10 : decode cX4_itemKind 10 = .ok (.ireturn, 1) := by decide +kernel
theorem d_X4_itemKind_11 : decode cX4_itemKind 11 = .ok (.aload_n 0, 1) := by decide +kernel
theorem d_X4_itemKind_12 : decode cX4_itemKind 12 = .ok (.ldc 178, 2) := by decide +kernel
theorem d_X4_itemKind_14 : decode cX4_itemKind 14 = .ok (.invokevirtual 64, 3) := by decide +kernel
theorem d_X4_itemKind_17 : decode cX4_itemKind 17 = .ok (.ifCond .eq 5, 3) := by decide +kernel
theorem d_X4_itemKind_20 : decode cX4_itemKind 20 = .ok (.iconst 1, 1) := by decide +kernel
theorem d_X4_itemKind_21 : decode cX4_itemKind 21 = .ok (.ireturn, 1) := by decide +kernel
theorem d_X4_itemKind_22 : decode cX4_itemKind 22 = .ok (.aload_n 0, 1) := by decide +kernel
theorem d_X4_itemKind_23 : decode cX4_itemKind 23 = .ok (.ldc 79, 2) := by decide +kernel
theorem d_X4_itemKind_25 : decode cX4_itemKind 25 = .ok (.invokevirtual 64, 3) := by decide +kernel
theorem d_X4_itemKind_28 : decode cX4_itemKind 28 = .ok (.ifCond .eq 5, 3) := by decide +kernel
theorem d_X4_itemKind_31 : decode cX4_itemKind 31 = .ok (.iconst 2, 1) := by decide +kernel
theorem d_X4_itemKind_32 : decode cX4_itemKind 32 = .ok (.ireturn, 1) := by decide +kernel
theorem d_X4_itemKind_33 : decode cX4_itemKind 33 = .ok (.aload_n 0, 1) := by decide +kernel
theorem d_X4_itemKind_34 : decode cX4_itemKind 34 = .ok (.ldc 180, 2) := by decide +kernel
theorem d_X4_itemKind_36 : decode cX4_itemKind 36 = .ok (.invokevirtual 64, 3) := by decide +kernel
theorem d_X4_itemKind_39 : decode cX4_itemKind 39 = .ok (.ifCond .eq 5, 3) := by decide +kernel
theorem d_X4_itemKind_42 : decode cX4_itemKind 42 = .ok (.iconst 3, 1) := by decide +kernel
theorem d_X4_itemKind_43 : decode cX4_itemKind 43 = .ok (.ireturn, 1) := by decide +kernel
theorem d_X4_itemKind_44 : decode cX4_itemKind 44 = .ok (.aload_n 0, 1) := by decide +kernel
theorem d_X4_itemKind_45 : decode cX4_itemKind 45 = .ok (.ldc 72, 2) := by decide +kernel
theorem d_X4_itemKind_47 : decode cX4_itemKind 47 = .ok (.invokevirtual 64, 3) := by decide +kernel
theorem d_X4_itemKind_50 : decode cX4_itemKind 50 = .ok (.ifCond .eq 5, 3) := by decide +kernel
theorem d_X4_itemKind_53 : decode cX4_itemKind 53 = .ok (.iconst 4, 1) := by decide +kernel
theorem d_X4_itemKind_54 : decode cX4_itemKind 54 = .ok (.ireturn, 1) := by decide +kernel
theorem d_X4_itemKind_55 : decode cX4_itemKind 55 = .ok (.aload_n 0, 1) := by decide +kernel
theorem d_X4_itemKind_56 : decode cX4_itemKind 56 = .ok (.ldc 182, 2) := by decide +kernel
theorem d_X4_itemKind_58 : decode cX4_itemKind 58 = .ok (.invokevirtual 64, 3) := by decide +kernel
theorem d_X4_itemKind_61 : decode cX4_itemKind 61 = .ok (.ifCond .eq 5, 3) := by decide +kernel
theorem d_X4_itemKind_64 : decode cX4_itemKind 64 = .ok (.iconst 5, 1) := by decide +kernel
theorem d_X4_itemKind_65 : decode cX4_itemKind 65 = .ok (.ireturn, 1) := by decide +kernel
theorem d_X4_itemKind_66 : decode cX4_itemKind 66 = .ok (.aload_n 0, 1) := by decide +kernel
theorem d_X4_itemKind_67 : decode cX4_itemKind 67 = .ok (.ldc 184, 2) := by decide +kernel
theorem d_X4_itemKind_69 : decode cX4_itemKind 69 = .ok (.invokevirtual 64, 3) := by decide +kernel
theorem d_X4_itemKind_72 : decode cX4_itemKind 72 = .ok (.ifCond .eq 6, 3) := by decide +kernel
theorem d_X4_itemKind_75 : decode cX4_itemKind 75 = .ok (.bipush 6, 2) := by decide +kernel
theorem d_X4_itemKind_77 : decode cX4_itemKind 77 = .ok (.ireturn, 1) := by decide +kernel
theorem d_X4_itemKind_78 : decode cX4_itemKind 78 = .ok (.aload_n 0, 1) := by decide +kernel
theorem d_X4_itemKind_79 : decode cX4_itemKind 79 = .ok (.ldc 186, 2) := by decide +kernel
theorem d_X4_itemKind_81 : decode cX4_itemKind 81 = .ok (.invokevirtual 64, 3) := by decide +kernel
theorem d_X4_itemKind_84 : decode cX4_itemKind 84 = .ok (.ifCond .eq 8, 3) := by decide +kernel
theorem d_X4_itemKind_87 : decode cX4_itemKind 87 = .ok (.bipush 7, 2) := by decide +kernel
theorem d_X4_itemKind_89 : decode cX4_itemKind 89 = .ok (.goto 4, 3) := by decide +kernel
theorem d_X4_itemKind_92 : decode cX4_itemKind 92 = .ok (.iconst (-1), 1) := by decide +kernel
theorem d_X4_itemKind_93 : decode cX4_itemKind 93 = .ok (.ireturn, 1) := by decide +kernel
theorem b_X4_itemKind_0 {X : cX} {d : Nat} {μ : mM} {K : Option Value → mM → Prop} {r0 : Nat} (hw9_r0 : WF9 μ r0) (hc_isName : Ct X (Rm (d + 4)) mX9_isName [.ref r0, .ref (X.2.2.2.2.1 2)] μ (fun r μ2 => G X (Rm (d + 5)) mX4_itemKind 6 [(0, .ref r0)] (r.toList ++ []) μ2 0 0 K)) : G X (Rm (d + 5)) mX4_itemKind 0 [(0, .ref r0)] [] μ 0 0 K := by
  refine G_aload_n d_X4_itemKind_0 rfl 0 rfl ?_
  refine G_ldcS 2 (by decide) rfl rfl d_X4_itemKind_1 ?_
  refine G_callV (M' := mX9_isName) (R' := (Rm (d + 4))) (S := []) [.ref (X.2.2.2.2.1 2)] 9 (w9_kd hw9_r0) cok9 rfl ok_X9_isName ml_X4_64 pn_X9_isName (ru_Rm (by decide)) (Nat.le_of_ble_eq_true rfl) d_X4_itemKind_3 ?_
  exact hc_isName
theorem b_X4_itemKind_6 {X : cX} {d : Nat} {μ : mM} {K : Option Value → mM → Prop} {r0 : Nat} {v0 : Int32} (hw9_r0 : WF9 μ r0) (hc_isName : v0 = 0 → Ct X (Rm (d + 4)) mX9_isName [.ref r0, .ref (X.2.2.2.2.1 8)] μ (fun r μ2 => G X (Rm (d + 5)) mX4_itemKind 17 [(0, .ref r0)] (r.toList ++ []) μ2 0 0 K)) (hK : ¬ v0 = 0 → K (some (.int 0)) μ) : G X (Rm (d + 5)) mX4_itemKind 6 [(0, .ref r0)] [.int v0] μ 0 0 K := by
  refine G_if_eq (tgt := 11) d_X4_itemKind_6 rfl (fun c0 => ?_) (fun c0 => ?_)
  ·
    refine G_aload_n d_X4_itemKind_11 rfl 0 rfl ?_
    refine G_ldcS 8 (by decide) rfl rfl d_X4_itemKind_12 ?_
    refine G_callV (M' := mX9_isName) (R' := (Rm (d + 4))) (S := []) [.ref (X.2.2.2.2.1 8)] 9 (w9_kd hw9_r0) cok9 rfl ok_X9_isName ml_X4_64 pn_X9_isName (ru_Rm (by decide)) (Nat.le_of_ble_eq_true rfl) d_X4_itemKind_14 ?_
    exact (hc_isName c0)
  ·
    refine G_iconst d_X4_itemKind_9 ic_0 ?_
    exact G_iret rfl rfl rfl d_X4_itemKind_10 (hK c0)
theorem b_X4_itemKind_17 {X : cX} {d : Nat} {μ : mM} {K : Option Value → mM → Prop} {r0 : Nat} {v0 : Int32} (hw9_r0 : WF9 μ r0) (hc_isName : v0 = 0 → Ct X (Rm (d + 4)) mX9_isName [.ref r0, .ref (X.2.2.2.2.1 4)] μ (fun r μ2 => G X (Rm (d + 5)) mX4_itemKind 28 [(0, .ref r0)] (r.toList ++ []) μ2 0 0 K)) (hK : ¬ v0 = 0 → K (some (.int 1)) μ) : G X (Rm (d + 5)) mX4_itemKind 17 [(0, .ref r0)] [.int v0] μ 0 0 K := by
  refine G_if_eq (tgt := 22) d_X4_itemKind_17 rfl (fun c0 => ?_) (fun c0 => ?_)
  ·
    refine G_aload_n d_X4_itemKind_22 rfl 0 rfl ?_
    refine G_ldcS 4 (by decide) rfl rfl d_X4_itemKind_23 ?_
    refine G_callV (M' := mX9_isName) (R' := (Rm (d + 4))) (S := []) [.ref (X.2.2.2.2.1 4)] 9 (w9_kd hw9_r0) cok9 rfl ok_X9_isName ml_X4_64 pn_X9_isName (ru_Rm (by decide)) (Nat.le_of_ble_eq_true rfl) d_X4_itemKind_25 ?_
    exact (hc_isName c0)
  ·
    refine G_iconst d_X4_itemKind_20 ic_1 ?_
    exact G_iret rfl rfl rfl d_X4_itemKind_21 (hK c0)
theorem b_X4_itemKind_28 {X : cX} {d : Nat} {μ : mM} {K : Option Value → mM → Prop} {r0 : Nat} {v0 : Int32} (hw9_r0 : WF9 μ r0) (hc_isName : v0 = 0 → Ct X (Rm (d + 4)) mX9_isName [.ref r0, .ref (X.2.2.2.2.1 9)] μ (fun r μ2 => G X (Rm (d + 5)) mX4_itemKind 39 [(0, .ref r0)] (r.toList ++ []) μ2 0 0 K)) (hK : ¬ v0 = 0 → K (some (.int 2)) μ) : G X (Rm (d + 5)) mX4_itemKind 28 [(0, .ref r0)] [.int v0] μ 0 0 K := by
  refine G_if_eq (tgt := 33) d_X4_itemKind_28 rfl (fun c0 => ?_) (fun c0 => ?_)
  ·
    refine G_aload_n d_X4_itemKind_33 rfl 0 rfl ?_
    refine G_ldcS 9 (by decide) rfl rfl d_X4_itemKind_34 ?_
    refine G_callV (M' := mX9_isName) (R' := (Rm (d + 4))) (S := []) [.ref (X.2.2.2.2.1 9)] 9 (w9_kd hw9_r0) cok9 rfl ok_X9_isName ml_X4_64 pn_X9_isName (ru_Rm (by decide)) (Nat.le_of_ble_eq_true rfl) d_X4_itemKind_36 ?_
    exact (hc_isName c0)
  ·
    refine G_iconst d_X4_itemKind_31 ic_2 ?_
    exact G_iret rfl rfl rfl d_X4_itemKind_32 (hK c0)
theorem b_X4_itemKind_39 {X : cX} {d : Nat} {μ : mM} {K : Option Value → mM → Prop} {r0 : Nat} {v0 : Int32} (hw9_r0 : WF9 μ r0) (hc_isName : v0 = 0 → Ct X (Rm (d + 4)) mX9_isName [.ref r0, .ref (X.2.2.2.2.1 1)] μ (fun r μ2 => G X (Rm (d + 5)) mX4_itemKind 50 [(0, .ref r0)] (r.toList ++ []) μ2 0 0 K)) (hK : ¬ v0 = 0 → K (some (.int 3)) μ) : G X (Rm (d + 5)) mX4_itemKind 39 [(0, .ref r0)] [.int v0] μ 0 0 K := by
  refine G_if_eq (tgt := 44) d_X4_itemKind_39 rfl (fun c0 => ?_) (fun c0 => ?_)
  ·
    refine G_aload_n d_X4_itemKind_44 rfl 0 rfl ?_
    refine G_ldcS 1 (by decide) rfl rfl d_X4_itemKind_45 ?_
    refine G_callV (M' := mX9_isName) (R' := (Rm (d + 4))) (S := []) [.ref (X.2.2.2.2.1 1)] 9 (w9_kd hw9_r0) cok9 rfl ok_X9_isName ml_X4_64 pn_X9_isName (ru_Rm (by decide)) (Nat.le_of_ble_eq_true rfl) d_X4_itemKind_47 ?_
    exact (hc_isName c0)
  ·
    refine G_iconst d_X4_itemKind_42 ic_3 ?_
    exact G_iret rfl rfl rfl d_X4_itemKind_43 (hK c0)
theorem b_X4_itemKind_50 {X : cX} {d : Nat} {μ : mM} {K : Option Value → mM → Prop} {r0 : Nat} {v0 : Int32} (hw9_r0 : WF9 μ r0) (hc_isName : v0 = 0 → Ct X (Rm (d + 4)) mX9_isName [.ref r0, .ref (X.2.2.2.2.1 10)] μ (fun r μ2 => G X (Rm (d + 5)) mX4_itemKind 61 [(0, .ref r0)] (r.toList ++ []) μ2 0 0 K)) (hK : ¬ v0 = 0 → K (some (.int 4)) μ) : G X (Rm (d + 5)) mX4_itemKind 50 [(0, .ref r0)] [.int v0] μ 0 0 K := by
  refine G_if_eq (tgt := 55) d_X4_itemKind_50 rfl (fun c0 => ?_) (fun c0 => ?_)
  ·
    refine G_aload_n d_X4_itemKind_55 rfl 0 rfl ?_
    refine G_ldcS 10 (by decide) rfl rfl d_X4_itemKind_56 ?_
    refine G_callV (M' := mX9_isName) (R' := (Rm (d + 4))) (S := []) [.ref (X.2.2.2.2.1 10)] 9 (w9_kd hw9_r0) cok9 rfl ok_X9_isName ml_X4_64 pn_X9_isName (ru_Rm (by decide)) (Nat.le_of_ble_eq_true rfl) d_X4_itemKind_58 ?_
    exact (hc_isName c0)
  ·
    refine G_iconst d_X4_itemKind_53 ic_4 ?_
    exact G_iret rfl rfl rfl d_X4_itemKind_54 (hK c0)
theorem b_X4_itemKind_61 {X : cX} {d : Nat} {μ : mM} {K : Option Value → mM → Prop} {r0 : Nat} {v0 : Int32} (hw9_r0 : WF9 μ r0) (hc_isName : v0 = 0 → Ct X (Rm (d + 4)) mX9_isName [.ref r0, .ref (X.2.2.2.2.1 11)] μ (fun r μ2 => G X (Rm (d + 5)) mX4_itemKind 72 [(0, .ref r0)] (r.toList ++ []) μ2 0 0 K)) (hK : ¬ v0 = 0 → K (some (.int 5)) μ) : G X (Rm (d + 5)) mX4_itemKind 61 [(0, .ref r0)] [.int v0] μ 0 0 K := by
  refine G_if_eq (tgt := 66) d_X4_itemKind_61 rfl (fun c0 => ?_) (fun c0 => ?_)
  ·
    refine G_aload_n d_X4_itemKind_66 rfl 0 rfl ?_
    refine G_ldcS 11 (by decide) rfl rfl d_X4_itemKind_67 ?_
    refine G_callV (M' := mX9_isName) (R' := (Rm (d + 4))) (S := []) [.ref (X.2.2.2.2.1 11)] 9 (w9_kd hw9_r0) cok9 rfl ok_X9_isName ml_X4_64 pn_X9_isName (ru_Rm (by decide)) (Nat.le_of_ble_eq_true rfl) d_X4_itemKind_69 ?_
    exact (hc_isName c0)
  ·
    refine G_iconst d_X4_itemKind_64 ic_5 ?_
    exact G_iret rfl rfl rfl d_X4_itemKind_65 (hK c0)
theorem b_X4_itemKind_72 {X : cX} {d : Nat} {μ : mM} {K : Option Value → mM → Prop} {r0 : Nat} {v0 : Int32} (hw9_r0 : WF9 μ r0) (hc_isName : v0 = 0 → Ct X (Rm (d + 4)) mX9_isName [.ref r0, .ref (X.2.2.2.2.1 12)] μ (fun r μ2 => G X (Rm (d + 5)) mX4_itemKind 84 [] (r.toList ++ []) μ2 0 0 K)) (hK : ¬ v0 = 0 → K (some (.int 6)) μ) : G X (Rm (d + 5)) mX4_itemKind 72 [(0, .ref r0)] [.int v0] μ 0 0 K := by
  refine G_if_eq (tgt := 78) d_X4_itemKind_72 rfl (fun c0 => ?_) (fun c0 => ?_)
  ·
    refine G_aload_n d_X4_itemKind_78 rfl 0 rfl ?_
    refine G_ldcS 12 (by decide) rfl rfl d_X4_itemKind_79 ?_
    refine G_sub (L' := []) [] rfl ?_
    refine G_callV (M' := mX9_isName) (R' := (Rm (d + 4))) (S := []) [.ref (X.2.2.2.2.1 12)] 9 (w9_kd hw9_r0) cok9 rfl ok_X9_isName ml_X4_64 pn_X9_isName (ru_Rm (by decide)) (Nat.le_of_ble_eq_true rfl) d_X4_itemKind_81 ?_
    exact (hc_isName c0)
  ·
    refine G_bipush d_X4_itemKind_75 bp_6 ?_
    exact G_iret rfl rfl rfl d_X4_itemKind_77 (hK c0)
theorem b_X4_itemKind_84 {X : cX} {d : Nat} {μ : mM} {K : Option Value → mM → Prop} {v0 : Int32} (hK : v0 = 0 → K (some (.int (-1))) μ) (hK_2 : ¬ v0 = 0 → K (some (.int 7)) μ) : G X (Rm (d + 5)) mX4_itemKind 84 [] [.int v0] μ 0 0 K := by
  refine G_if_eq (tgt := 92) d_X4_itemKind_84 rfl (fun c0 => ?_) (fun c0 => ?_)
  ·
    refine G_iconst d_X4_itemKind_92 ic_m1 ?_
    exact G_iret rfl rfl rfl d_X4_itemKind_93 (hK c0)
  ·
    refine G_bipush d_X4_itemKind_87 bp_7 ?_
    refine G_goto (tgt := 93) d_X4_itemKind_89 rfl ?_
    exact G_iret rfl rfl rfl d_X4_itemKind_93 (hK_2 c0)
theorem d_X4_takeLetter_0 : decode cX4_takeLetter 0 = .ok (.aload_n 1, 1) := by decide +kernel
theorem d_X4_takeLetter_1 : decode cX4_takeLetter 1 = .ok (.bipush 97, 2) := by decide +kernel
theorem d_X4_takeLetter_3 : decode cX4_takeLetter 3 = .ok (.invokevirtual 150, 3) := by decide +kernel
theorem d_X4_takeLetter_6 : decode cX4_takeLetter 6 = .ok (.istore_n 3, 1) := by decide +kernel
theorem d_X4_takeLetter_7 : decode cX4_takeLetter 7 = .ok (.iload_n 3, 1) := by decide +kernel
theorem d_X4_takeLetter_8 : decode cX4_takeLetter 8 = .ok (.ifCond .ge 11, 3) := by decide +kernel
theorem d_X4_takeLetter_11 : decode cX4_takeLetter 11 = .ok (.aload_n 0, 1) := by decide +kernel
theorem d_X4_takeLetter_12 : decode cX4_takeLetter 12 = .ok (.aload_n 1, 1) := by decide +kernel
theorem d_X4_takeLetter_13 : decode cX4_takeLetter 13 = .ok (.invokevirtual 89, 3) := by decide +kernel
theorem d_X4_takeLetter_16 : decode cX4_takeLetter 16 = .ok (.pop, 1) := by decide +kernel
theorem d_X4_takeLetter_17 : decode cX4_takeLetter 17 = .ok (.iconst (-1), 1) := by decide +kernel
theorem d_X4_takeLetter_18 : decode cX4_takeLetter 18 = .ok (.ireturn, 1) := by decide +kernel
theorem d_X4_takeLetter_19 : decode cX4_takeLetter 19 = .ok (.aload_n 2, 1) := by decide +kernel
theorem d_X4_takeLetter_20 : decode cX4_takeLetter 20 = .ok (.iload_n 3, 1) := by decide +kernel
theorem d_X4_takeLetter_21 : decode cX4_takeLetter 21 = .ok (.invokevirtual 154, 3) := by decide +kernel
theorem d_X4_takeLetter_24 : decode cX4_takeLetter 24 = .ok (.istore 4, 2) := by decide +kernel
theorem d_X4_takeLetter_26 : decode cX4_takeLetter 26 = .ok (.iload 4, 2) := by decide +kernel
theorem d_X4_takeLetter_28 : decode cX4_takeLetter 28 = .ok (.ifCond .ge 13, 3) := by decide +kernel
theorem d_X4_takeLetter_31 : decode cX4_takeLetter 31 = .ok (.aload_n 0, 1) := by decide +kernel
theorem d_X4_takeLetter_32 : decode cX4_takeLetter 32 = .ok (.aload_n 1, 1) := by decide +kernel
theorem d_X4_takeLetter_33 : decode cX4_takeLetter 33 = .ok (.iconst 4, 1) := by decide +kernel
theorem d_X4_takeLetter_34 : decode cX4_takeLetter 34 = .ok (.invokevirtual 55, 3) := by decide +kernel
theorem d_X4_takeLetter_37 : decode cX4_takeLetter 37 = .ok (.pop, 1) := by decide +kernel
theorem d_X4_takeLetter_38 : decode cX4_takeLetter 38 = .ok (.goto 7, 3) := by decide +kernel
theorem d_X4_takeLetter_41 : decode cX4_takeLetter 41 = .ok (.aload_n 1, 1) := by decide +kernel
theorem d_X4_takeLetter_42 : decode cX4_takeLetter 42 = .ok (.invokevirtual 100, 3) := by decide +kernel
theorem d_X4_takeLetter_45 : decode cX4_takeLetter 45 = .ok (.iload 4, 2) := by decide +kernel
theorem d_X4_takeLetter_47 : decode cX4_takeLetter 47 = .ok (.ireturn, 1) := by decide +kernel
theorem b_X4_takeLetter_0 {X : cX} {d : Nat} {μ : mM} {K : Option Value → mM → Prop} {r0 : Nat} {r1 : Nat} {r2 : Nat} (hw9_r1 : WF9 μ r1) (hc_oneOfThree : Ct X (Rm d) mX9_oneOfThree [.ref r1, .int 97] μ (fun r μ2 => G X (Rm (d + 1)) mX4_takeLetter 6 [(0, .ref r0), (1, .ref r1), (2, .ref r2)] (r.toList ++ []) μ2 0 0 K)) : G X (Rm (d + 1)) mX4_takeLetter 0 [(0, .ref r0), (1, .ref r1), (2, .ref r2)] [] μ 0 0 K := by
  refine G_aload_n d_X4_takeLetter_0 rfl 1 rfl ?_
  refine G_bipush d_X4_takeLetter_1 bp_97 ?_
  refine G_callV (M' := mX9_oneOfThree) (R' := (Rm d)) (S := []) [.int 97] 9 (w9_kd hw9_r1) cok9 rfl ok_X9_oneOfThree ml_X4_150 pn_X9_oneOfThree (ru_Rm (by decide)) (Nat.le_of_ble_eq_true rfl) d_X4_takeLetter_3 ?_
  exact hc_oneOfThree
theorem b_X4_takeLetter_6 {X : cX} {d : Nat} {μ : mM} {K : Option Value → mM → Prop} {r0 : Nat} {r1 : Nat} {r2 : Nat} {v0 : Int32} (hw3_r2 : WF3 μ r2) (hc_placeOf : 0 ≤ v0 → Ct X (Rm d) mX3_placeOf [.ref r2, .int v0] μ (fun r μ2 => G X (Rm (d + 1)) mX4_takeLetter 24 [(0, .ref r0), (1, .ref r1)] (r.toList ++ []) μ2 0 0 K)) (hw4_r0 : WF4 μ r0) (hc_refuseToken : ¬ 0 ≤ v0 → Ct X (Rm d) mX4_refuseToken [.ref r0, .ref r1] μ (fun r μ2 => G X (Rm (d + 1)) mX4_takeLetter 16 [] (r.toList ++ []) μ2 0 0 K)) : G X (Rm (d + 1)) mX4_takeLetter 6 [(0, .ref r0), (1, .ref r1), (2, .ref r2)] [.int v0] μ 0 0 K := by
  refine G_istore_n (L' := [(3, .int v0), (0, .ref r0), (1, .ref r1), (2, .ref r2)]) d_X4_takeLetter_6 rfl (by decide) rfl ?_
  refine G_iload_n d_X4_takeLetter_7 rfl 0 rfl ?_
  refine G_if_ge (tgt := 19) d_X4_takeLetter_8 rfl (fun c0 => ?_) (fun c0 => ?_)
  ·
    refine G_aload_n d_X4_takeLetter_19 rfl 3 rfl ?_
    refine G_iload_n d_X4_takeLetter_20 rfl 0 rfl ?_
    refine G_sub (L' := [(0, .ref r0), (1, .ref r1)]) [1, 2] rfl ?_
    refine G_callV (M' := mX3_placeOf) (R' := (Rm d)) (S := []) [.int v0] 3 (w3_kd hw3_r2) cok3 rfl ok_X3_placeOf ml_X4_154 pn_X3_placeOf (ru_Rm (by decide)) (Nat.le_of_ble_eq_true rfl) d_X4_takeLetter_21 ?_
    exact (hc_placeOf c0)
  ·
    refine G_aload_n d_X4_takeLetter_11 rfl 1 rfl ?_
    refine G_aload_n d_X4_takeLetter_12 rfl 2 rfl ?_
    refine G_sub (L' := []) [] rfl ?_
    refine G_callV (M' := mX4_refuseToken) (R' := (Rm d)) (S := []) [.ref r1] 4 (w4_kd hw4_r0) cok4 rfl ok_X4_refuseToken ml_X4_89 pn_X4_refuseToken (ru_Rm (by decide)) (Nat.le_of_ble_eq_true rfl) d_X4_takeLetter_13 ?_
    exact (hc_refuseToken c0)
theorem b_X4_takeLetter_16 {X : cX} {d : Nat} {μ : mM} {K : Option Value → mM → Prop} {v0 : Int32} (hK : K (some (.int (-1))) μ) : G X (Rm (d + 1)) mX4_takeLetter 16 [] [.int v0] μ 0 0 K := by
  refine G_pop d_X4_takeLetter_16 rfl ?_
  refine G_iconst d_X4_takeLetter_17 ic_m1 ?_
  exact G_iret rfl rfl rfl d_X4_takeLetter_18 hK
theorem b_X4_takeLetter_24 {X : cX} {d : Nat} {μ : mM} {K : Option Value → mM → Prop} {r0 : Nat} {r1 : Nat} {v0 : Int32} (hw9_r1 : WF9 μ r1) (hc_advance : 0 ≤ v0 → Ct X (Rm d) mX9_advance [.ref r1] μ (fun r μ2 => G X (Rm (d + 1)) mX4_takeLetter 45 [(4, .int v0)] (r.toList ++ []) μ2 0 0 K)) (hw4_r0 : WF4 μ r0) (hc_refuse : ¬ 0 ≤ v0 → Ct X (Rm d) mX4_refuse [.ref r0, .ref r1, .int 4] μ (fun r μ2 => G X (Rm (d + 1)) mX4_takeLetter 37 [(4, .int v0)] (r.toList ++ []) μ2 0 0 K)) : G X (Rm (d + 1)) mX4_takeLetter 24 [(0, .ref r0), (1, .ref r1)] [.int v0] μ 0 0 K := by
  refine G_istore (L' := [(4, .int v0), (0, .ref r0), (1, .ref r1)]) d_X4_takeLetter_24 (by decide) rfl ?_
  refine G_iload d_X4_takeLetter_26 0 rfl ?_
  refine G_if_ge (tgt := 41) d_X4_takeLetter_28 rfl (fun c0 => ?_) (fun c0 => ?_)
  ·
    refine G_aload_n d_X4_takeLetter_41 rfl 2 rfl ?_
    refine G_sub (L' := [(4, .int v0)]) [0] rfl ?_
    refine G_callV (M' := mX9_advance) (R' := (Rm d)) (S := []) [] 9 (w9_kd hw9_r1) cok9 rfl ok_X9_advance ml_X4_100 pn_X9_advance (ru_Rm (by decide)) (Nat.le_of_ble_eq_true rfl) d_X4_takeLetter_42 ?_
    exact (hc_advance c0)
  ·
    refine G_aload_n d_X4_takeLetter_31 rfl 1 rfl ?_
    refine G_aload_n d_X4_takeLetter_32 rfl 2 rfl ?_
    refine G_iconst d_X4_takeLetter_33 ic_4 ?_
    refine G_sub (L' := [(4, .int v0)]) [0] rfl ?_
    refine G_callV (M' := mX4_refuse) (R' := (Rm d)) (S := []) [.ref r1, .int 4] 4 (w4_kd hw4_r0) cok4 rfl ok_X4_refuse ml_X4_55 pn_X4_refuse (ru_Rm (by decide)) (Nat.le_of_ble_eq_true rfl) d_X4_takeLetter_34 ?_
    exact (hc_refuse c0)
theorem b_X4_takeLetter_37 {X : cX} {d : Nat} {μ : mM} {K : Option Value → mM → Prop} {l4 : Int32} {v0 : Int32} (h : G X (Rm (d + 1)) mX4_takeLetter 45 [(4, .int l4)] [] μ 0 0 K) : G X (Rm (d + 1)) mX4_takeLetter 37 [(4, .int l4)] [.int v0] μ 0 0 K := by
  refine G_pop d_X4_takeLetter_37 rfl ?_
  refine G_goto (tgt := 45) d_X4_takeLetter_38 rfl ?_
  exact h
theorem b_X4_takeLetter_45 {X : cX} {d : Nat} {μ : mM} {K : Option Value → mM → Prop} {l4 : Int32} (hK : K (some (.int l4)) μ) : G X (Rm (d + 1)) mX4_takeLetter 45 [(4, .int l4)] [] μ 0 0 K := by
  refine G_iload d_X4_takeLetter_45 0 rfl ?_
  exact G_iret rfl rfl rfl d_X4_takeLetter_47 hK
theorem d_X4_takeItem_0 : decode cX4_takeItem 0 = .ok (.aload_n 1, 1) := by decide +kernel
theorem d_X4_takeItem_1 : decode cX4_takeItem 1 = .ok (.invokestatic 162, 3) := by decide +kernel
theorem d_X4_takeItem_4 : decode cX4_takeItem 4 = .ok (.istore_n 3, 1) := by decide +kernel
theorem d_X4_takeItem_5 : decode cX4_takeItem 5 = .ok (.iload_n 3, 1) := by decide +kernel
theorem d_X4_takeItem_6 : decode cX4_takeItem 6 = .ok (.ifCond .ge 9, 3) := by decide +kernel
theorem d_X4_takeItem_9 : decode cX4_takeItem 9 = .ok (.aload_n 0, 1) := by decide +kernel
theorem d_X4_takeItem_10 : decode cX4_takeItem 10 = .ok (.aload_n 1, 1) := by decide +kernel
theorem d_X4_takeItem_11 : decode cX4_takeItem 11 = .ok (.invokevirtual 89, 3) := by decide +kernel
theorem d_X4_takeItem_14 : decode cX4_takeItem 14 = .ok (.ireturn, 1) := by decide +kernel
theorem d_X4_takeItem_15 : decode cX4_takeItem 15 = .ok (.aload_n 2, 1) := by decide +kernel
theorem d_X4_takeItem_16 : decode cX4_takeItem 16 = .ok (.invokevirtual 165, 3) := by decide +kernel
theorem d_X4_takeItem_19 : decode cX4_takeItem 19 = .ok (.ifCond .eq 10, 3) := by decide +kernel
theorem d_X4_takeItem_22 : decode cX4_takeItem 22 = .ok (.aload_n 0, 1) := by decide +kernel
theorem d_X4_takeItem_23 : decode cX4_takeItem 23 = .ok (.aload_n 1, 1) := by decide +kernel
theorem d_X4_takeItem_24 : decode cX4_takeItem 24 = .ok (.iconst 5, 1) := by decide +kernel
theorem d_X4_takeItem_25 : decode cX4_takeItem 25 = .ok (.invokevirtual 55, 3) := by decide +kernel
theorem d_X4_takeItem_28 : decode cX4_takeItem 28 = .ok (.ireturn, 1) := by decide +kernel
theorem d_X4_takeItem_29 : decode cX4_takeItem 29 = .ok (.aload_n 2, 1) := by decide +kernel
theorem d_X4_takeItem_30 : decode cX4_takeItem 30 = .ok (.iload_n 3, 1) := by decide +kernel
theorem d_X4_takeItem_31 : decode cX4_takeItem 31 = .ok (.invokevirtual 166, 3) := by decide +kernel
theorem d_X4_takeItem_34 : decode cX4_takeItem 34 = .ok (.ifCond .ne 10, 3) := by decide +kernel
theorem d_X4_takeItem_37 : decode cX4_takeItem 37 = .ok (.aload_n 0, 1) := by decide +kernel
theorem d_X4_takeItem_38 : decode cX4_takeItem 38 = .ok (.aload_n 1, 1) := by decide +kernel
theorem d_X4_takeItem_39 : decode cX4_takeItem 39 = .ok (.iconst 4, 1) := by decide +kernel
theorem d_X4_takeItem_40 : decode cX4_takeItem 40 = .ok (.invokevirtual 55, 3) := by decide +kernel
theorem d_X4_takeItem_43 : decode cX4_takeItem 43 = .ok (.ireturn, 1) := by decide +kernel
theorem d_X4_takeItem_44 : decode cX4_takeItem 44 = .ok (.aload_n 1, 1) := by decide +kernel
theorem d_X4_takeItem_45 : decode cX4_takeItem 45 = .ok (.invokevirtual 100, 3) := by decide +kernel
theorem d_X4_takeItem_48 : decode cX4_takeItem 48 = .ok (.iconst 0, 1) := by decide +kernel
theorem d_X4_takeItem_49 : decode cX4_takeItem 49 = .ok (.istore 4, 2) := by decide +kernel
theorem d_X4_takeItem_51 : decode cX4_takeItem 51 = .ok (.iconst 0, 1) := by decide +kernel
theorem d_X4_takeItem_52 : decode cX4_takeItem 52 = .ok (.istore 5, 2) := by decide +kernel
theorem d_X4_takeItem_54 : decode cX4_takeItem 54 = .ok (.iload_n 3, 1) := by decide +kernel
theorem d_X4_takeItem_55 : decode cX4_takeItem 55 = .ok (.ifCond .eq 8, 3) := by decide +kernel
theorem d_X4_takeItem_58 : decode cX4_takeItem 58 = .ok (.iload_n 3, 1) := by decide +kernel
theorem d_X4_takeItem_59 : decode cX4_takeItem 59 = .ok (.iconst 1, 1) := by decide +kernel
theorem d_X4_takeItem_60 : decode cX4_takeItem 60 = .ok (.if_icmp .ne 13, 3) := by decide +kernel
theorem d_X4_takeItem_63 : decode cX4_takeItem 63 = .ok (.aload_n 0, 1) := by decide +kernel
theorem d_X4_takeItem_64 : decode cX4_takeItem 64 = .ok (.aload_n 1, 1) := by decide +kernel
theorem d_X4_takeItem_65 : decode cX4_takeItem 65 = .ok (.invokevirtual 107, 3) := by decide +kernel
theorem d_X4_takeItem_68 : decode cX4_takeItem 68 = .ok (.istore 4, 2) := by decide +kernel
theorem d_X4_takeItem_70 : decode cX4_takeItem 70 = .ok (.goto 26, 3) := by decide +kernel
theorem d_X4_takeItem_73 : decode cX4_takeItem 73 = .ok (.iload_n 3, 1) := by decide +kernel
theorem d_X4_takeItem_74 : decode cX4_takeItem 74 = .ok (.iconst 2, 1) := by decide +kernel
theorem d_X4_takeItem_75 : decode cX4_takeItem 75 = .ok (.if_icmp .eq 13, 3) := by decide +kernel
theorem d_X4_takeItem_78 : decode cX4_takeItem 78 = .ok (.iload_n 3, 1) := by decide +kernel
theorem d_X4_takeItem_79 : decode cX4_takeItem 79 = .ok (.iconst 3, 1) := by decide +kernel
theorem d_X4_takeItem_80 : decode cX4_takeItem 80 = .ok (.if_icmp .eq 8, 3) := by decide +kernel
theorem d_X4_takeItem_83 : decode cX4_takeItem 83 = .ok (.iload_n 3, 1) := by decide +kernel
theorem d_X4_takeItem_84 : decode cX4_takeItem 84 = .ok (.iconst 4, 1) := by decide +kernel
theorem d_X4_takeItem_85 : decode cX4_takeItem 85 = .ok (.if_icmp .ne 11, 3) := by decide +kernel
theorem d_X4_takeItem_88 : decode cX4_takeItem 88 = .ok (.aload_n 0, 1) := by decide +kernel
theorem d_X4_takeItem_89 : decode cX4_takeItem 89 = .ok (.aload_n 1, 1) := by decide +kernel
theorem d_X4_takeItem_90 : decode cX4_takeItem 90 = .ok (.aload_n 2, 1) := by decide +kernel
theorem d_X4_takeItem_91 : decode cX4_takeItem 91 = .ok (.invokevirtual 170, 3) := by decide +kernel
theorem d_X4_takeItem_94 : decode cX4_takeItem 94 = .ok (.istore 4, 2) := by decide +kernel
theorem d_X4_takeItem_96 : decode cX4_takeItem 96 = .ok (.iload 4, 2) := by decide +kernel
theorem d_X4_takeItem_98 : decode cX4_takeItem 98 = .ok (.ifCond .lt 16, 3) := by decide +kernel
theorem d_X4_takeItem_101 : decode cX4_takeItem 101 = .ok (.iload_n 3, 1) := by decide +kernel
theorem d_X4_takeItem_102 : decode cX4_takeItem 102 = .ok (.iconst 4, 1) := by decide +kernel
theorem d_X4_takeItem_103 : decode cX4_takeItem 103 = .ok (.if_icmp .ge 11, 3) := by decide +kernel
theorem d_X4_takeItem_106 : decode cX4_takeItem 106 = .ok (.aload_n 0, 1) := by decide +kernel
theorem d_X4_takeItem_107 : decode cX4_takeItem 107 = .ok (.aload_n 1, 1) := by decide +kernel
theorem d_X4_takeItem_108 : decode cX4_takeItem 108 = .ok (.aload_n 2, 1) := by decide +kernel
theorem d_X4_takeItem_109 : decode cX4_takeItem 109 = .ok (.invokevirtual 170, 3) := by decide +kernel
theorem d_X4_takeItem_112 : decode cX4_takeItem 112 = .ok (.istore 5, 2) := by decide +kernel
theorem d_X4_takeItem_114 : decode cX4_takeItem 114 = .ok (.iload 4, 2) := by decide +kernel
theorem d_X4_takeItem_116 : decode cX4_takeItem 116 = .ok (.ifCond .lt 8, 3) := by decide +kernel
theorem d_X4_takeItem_119 : decode cX4_takeItem 119 = .ok (.iload 5, 2) := by decide +kernel
theorem d_X4_takeItem_121 : decode cX4_takeItem 121 = .ok (.ifCond .ge 5, 3) := by decide +kernel
theorem d_X4_takeItem_124 : decode cX4_takeItem 124 = .ok (.iconst 0, 1) := by decide +kernel
theorem d_X4_takeItem_125 : decode cX4_takeItem 125 = .ok (.ireturn, 1) := by decide +kernel
theorem d_X4_takeItem_126 : decode cX4_takeItem 126 = .ok (.aload_n 2, 1) := by decide +kernel
theorem d_X4_takeItem_127 : decode cX4_takeItem 127 = .ok (.iload_n 3, 1) := by decide +kernel
theorem d_X4_takeItem_128 : decode cX4_takeItem 128 = .ok (.iload 4, 2) := by decide +kernel
theorem d_X4_takeItem_130 : decode cX4_takeItem 130 = .ok (.iload 5, 2) := by decide +kernel
theorem d_X4_takeItem_132 : decode cX4_takeItem 132 = .ok (.invokevirtual 174, 3) := by decide +kernel
theorem d_X4_takeItem_135 : decode cX4_takeItem 135 = .ok (.iconst 1, 1) := by decide +kernel
theorem d_X4_takeItem_136 : decode cX4_takeItem 136 = .ok (.ireturn, 1) := by decide +kernel
theorem b_X4_takeItem_0 {X : cX} {d : Nat} {μ : mM} {K : Option Value → mM → Prop} {r0 : Nat} {r1 : Nat} {r2 : Nat} (hc_itemKind : Ct X (Rm (d + 5)) mX4_itemKind [.ref r1] μ (fun r μ2 => G X (Rm (d + 6)) mX4_takeItem 4 [(0, .ref r0), (1, .ref r1), (2, .ref r2)] (r.toList ++ []) μ2 0 0 K)) : G X (Rm (d + 6)) mX4_takeItem 0 [(0, .ref r0), (1, .ref r1), (2, .ref r2)] [] μ 0 0 K := by
  refine G_aload_n d_X4_takeItem_0 rfl 1 rfl ?_
  refine G_callS (M' := mX4_itemKind) (R' := (Rm (d + 5))) (S := []) [.ref r1] ok_X4_itemKind ml_X4_162 pn_X4_itemKind (ru_Rm (by decide)) (Nat.le_of_ble_eq_true rfl) d_X4_takeItem_1 ?_
  exact hc_itemKind
theorem b_X4_takeItem_4 {X : cX} {d : Nat} {μ : mM} {K : Option Value → mM → Prop} {r0 : Nat} {r1 : Nat} {r2 : Nat} {v0 : Int32} (hw3_r2 : WF3 μ r2) (hw9_r1 : WF9 μ r1) (hc_advance : 0 ≤ v0 → (e_X3_isFull μ r2) = 0 → ¬ (e_X3_hasEnoughFor μ r2 v0) = 0 → Ct X (Rm (d + 5)) mX9_advance [.ref r1] μ (fun r μ2 => G X (Rm (d + 6)) mX4_takeItem 48 [(0, .ref r0), (1, .ref r1), (2, .ref r2), (3, .int v0)] (r.toList ++ []) μ2 0 0 K)) (hw4_r0 : WF4 μ r0) (hc_refuse : 0 ≤ v0 → (e_X3_isFull μ r2) = 0 → (e_X3_hasEnoughFor μ r2 v0) = 0 → Ct X (Rm (d + 5)) mX4_refuse [.ref r0, .ref r1, .int 4] μ (fun r μ2 => G X (Rm (d + 6)) mX4_takeItem 43 [] (r.toList ++ []) μ2 0 0 K)) (hc_refuse_2 : 0 ≤ v0 → ¬ (e_X3_isFull μ r2) = 0 → Ct X (Rm (d + 5)) mX4_refuse [.ref r0, .ref r1, .int 5] μ (fun r μ2 => G X (Rm (d + 6)) mX4_takeItem 28 [] (r.toList ++ []) μ2 0 0 K)) (hc_refuseToken : ¬ 0 ≤ v0 → Ct X (Rm (d + 5)) mX4_refuseToken [.ref r0, .ref r1] μ (fun r μ2 => G X (Rm (d + 6)) mX4_takeItem 14 [] (r.toList ++ []) μ2 0 0 K)) : G X (Rm (d + 6)) mX4_takeItem 4 [(0, .ref r0), (1, .ref r1), (2, .ref r2)] [.int v0] μ 0 0 K := by
  refine G_istore_n (L' := [(3, .int v0), (0, .ref r0), (1, .ref r1), (2, .ref r2)]) d_X4_takeItem_4 rfl (by decide) rfl ?_
  refine G_iload_n d_X4_takeItem_5 rfl 0 rfl ?_
  refine G_if_ge (tgt := 15) d_X4_takeItem_6 rfl (fun c0 => ?_) (fun c0 => ?_)
  ·
    refine G_aload_n d_X4_takeItem_15 rfl 3 rfl ?_
    refine G_callV (M' := mX3_isFull) (R' := (Rm (d + 5))) (S := []) [] 3 (w3_kd hw3_r2) cok3 rfl ok_X3_isFull ml_X4_165 pn_X3_isFull (ru_Rm (by decide)) (Nat.le_of_ble_eq_true rfl) d_X4_takeItem_16 (s_X3_isFull (μ := μ)  hw3_r2 ?_)
    show G X (Rm (d + 6)) mX4_takeItem 19 [(3, .int v0), (0, .ref r0), (1, .ref r1), (2, .ref r2)] [.int (e_X3_isFull μ r2)] μ 0 0 K
    refine G_if_eq (tgt := 29) d_X4_takeItem_19 rfl (fun c1 => ?_) (fun c1 => ?_)
    ·
      refine G_aload_n d_X4_takeItem_29 rfl 3 rfl ?_
      refine G_iload_n d_X4_takeItem_30 rfl 0 rfl ?_
      refine G_callV (M' := mX3_hasEnoughFor) (R' := (Rm (d + 5))) (S := []) [.int v0] 3 (w3_kd hw3_r2) cok3 rfl ok_X3_hasEnoughFor ml_X4_166 pn_X3_hasEnoughFor (ru_Rm (by decide)) (Nat.le_of_ble_eq_true rfl) d_X4_takeItem_31 (s_X3_hasEnoughFor (μ := μ)  hw3_r2 ?_)
      show G X (Rm (d + 6)) mX4_takeItem 34 [(3, .int v0), (0, .ref r0), (1, .ref r1), (2, .ref r2)] [.int (e_X3_hasEnoughFor μ r2 v0)] μ 0 0 K
      refine G_if_ne (tgt := 44) d_X4_takeItem_34 rfl (fun c2 => ?_) (fun c2 => ?_)
      ·
        refine G_aload_n d_X4_takeItem_44 rfl 2 rfl ?_
        refine G_sub (L' := [(0, .ref r0), (1, .ref r1), (2, .ref r2), (3, .int v0)]) [1, 2, 3, 0] rfl ?_
        refine G_callV (M' := mX9_advance) (R' := (Rm (d + 5))) (S := []) [] 9 (w9_kd hw9_r1) cok9 rfl ok_X9_advance ml_X4_100 pn_X9_advance (ru_Rm (by decide)) (Nat.le_of_ble_eq_true rfl) d_X4_takeItem_45 ?_
        exact (hc_advance c0 c1 c2)
      ·
        refine G_aload_n d_X4_takeItem_37 rfl 1 rfl ?_
        refine G_aload_n d_X4_takeItem_38 rfl 2 rfl ?_
        refine G_iconst d_X4_takeItem_39 ic_4 ?_
        refine G_sub (L' := []) [] rfl ?_
        refine G_callV (M' := mX4_refuse) (R' := (Rm (d + 5))) (S := []) [.ref r1, .int 4] 4 (w4_kd hw4_r0) cok4 rfl ok_X4_refuse ml_X4_55 pn_X4_refuse (ru_Rm (by decide)) (Nat.le_of_ble_eq_true rfl) d_X4_takeItem_40 ?_
        exact (hc_refuse c0 c1 c2)
    ·
      refine G_aload_n d_X4_takeItem_22 rfl 1 rfl ?_
      refine G_aload_n d_X4_takeItem_23 rfl 2 rfl ?_
      refine G_iconst d_X4_takeItem_24 ic_5 ?_
      refine G_sub (L' := []) [] rfl ?_
      refine G_callV (M' := mX4_refuse) (R' := (Rm (d + 5))) (S := []) [.ref r1, .int 5] 4 (w4_kd hw4_r0) cok4 rfl ok_X4_refuse ml_X4_55 pn_X4_refuse (ru_Rm (by decide)) (Nat.le_of_ble_eq_true rfl) d_X4_takeItem_25 ?_
      exact (hc_refuse_2 c0 c1)
  ·
    refine G_aload_n d_X4_takeItem_9 rfl 1 rfl ?_
    refine G_aload_n d_X4_takeItem_10 rfl 2 rfl ?_
    refine G_sub (L' := []) [] rfl ?_
    refine G_callV (M' := mX4_refuseToken) (R' := (Rm (d + 5))) (S := []) [.ref r1] 4 (w4_kd hw4_r0) cok4 rfl ok_X4_refuseToken ml_X4_89 pn_X4_refuseToken (ru_Rm (by decide)) (Nat.le_of_ble_eq_true rfl) d_X4_takeItem_11 ?_
    exact (hc_refuseToken c0)
theorem b_X4_takeItem_14 {X : cX} {d : Nat} {μ : mM} {K : Option Value → mM → Prop} {v0 : Int32} (hK : K (some (.int v0)) μ) (hz : v0 = 0 ∨ v0 = 1) : G X (Rm (d + 6)) mX4_takeItem 14 [] [.int v0] μ 0 0 K := by
  exact G_zret rfl (nar_b hz) rfl rfl d_X4_takeItem_14 hK
theorem b_X4_takeItem_28 {X : cX} {d : Nat} {μ : mM} {K : Option Value → mM → Prop} {v0 : Int32} (hK : K (some (.int v0)) μ) (hz : v0 = 0 ∨ v0 = 1) : G X (Rm (d + 6)) mX4_takeItem 28 [] [.int v0] μ 0 0 K := by
  exact G_zret rfl (nar_b hz) rfl rfl d_X4_takeItem_28 hK
theorem b_X4_takeItem_43 {X : cX} {d : Nat} {μ : mM} {K : Option Value → mM → Prop} {v0 : Int32} (hK : K (some (.int v0)) μ) (hz : v0 = 0 ∨ v0 = 1) : G X (Rm (d + 6)) mX4_takeItem 43 [] [.int v0] μ 0 0 K := by
  exact G_zret rfl (nar_b hz) rfl rfl d_X4_takeItem_43 hK
theorem b_X4_takeItem_48 {X : cX} {d : Nat} {μ : mM} {K : Option Value → mM → Prop} {r0 : Nat} {r1 : Nat} {r2 : Nat} {l3 : Int32} (h : l3 = 0 → G X (Rm (d + 6)) mX4_takeItem 63 [(0, .ref r0), (1, .ref r1), (2, .ref r2), (3, .int l3), (5, .int 0)] [] μ 0 0 K) (h_2 : ¬ l3 = 0 → ¬ l3 = (1 : Int32) → l3 = (2 : Int32) → G X (Rm (d + 6)) mX4_takeItem 88 [(0, .ref r0), (1, .ref r1), (2, .ref r2), (3, .int l3), (5, .int 0)] [] μ 0 0 K) (h_3 : ¬ l3 = 0 → ¬ l3 = (1 : Int32) → ¬ l3 = (2 : Int32) → l3 = (3 : Int32) → G X (Rm (d + 6)) mX4_takeItem 88 [(0, .ref r0), (1, .ref r1), (2, .ref r2), (3, .int l3), (5, .int 0)] [] μ 0 0 K) (h_4 : ¬ l3 = 0 → ¬ l3 = (1 : Int32) → ¬ l3 = (2 : Int32) → ¬ l3 = (3 : Int32) → ¬ l3 = (4 : Int32) → G X (Rm (d + 6)) mX4_takeItem 96 [(0, .ref r0), (1, .ref r1), (2, .ref r2), (3, .int l3), (4, .int 0), (5, .int 0)] [] μ 0 0 K) (h_5 : ¬ l3 = 0 → ¬ l3 = (1 : Int32) → ¬ l3 = (2 : Int32) → ¬ l3 = (3 : Int32) → l3 = (4 : Int32) → G X (Rm (d + 6)) mX4_takeItem 88 [(0, .ref r0), (1, .ref r1), (2, .ref r2), (3, .int l3), (5, .int 0)] [] μ 0 0 K) (h_6 : ¬ l3 = 0 → l3 = (1 : Int32) → G X (Rm (d + 6)) mX4_takeItem 63 [(0, .ref r0), (1, .ref r1), (2, .ref r2), (3, .int l3), (5, .int 0)] [] μ 0 0 K) : G X (Rm (d + 6)) mX4_takeItem 48 [(0, .ref r0), (1, .ref r1), (2, .ref r2), (3, .int l3)] [] μ 0 0 K := by
  refine G_iconst d_X4_takeItem_48 ic_0 ?_
  refine G_istore (L' := [(4, .int 0), (0, .ref r0), (1, .ref r1), (2, .ref r2), (3, .int l3)]) d_X4_takeItem_49 (by decide) rfl ?_
  refine G_iconst d_X4_takeItem_51 ic_0 ?_
  refine G_istore (L' := [(5, .int 0), (4, .int 0), (0, .ref r0), (1, .ref r1), (2, .ref r2), (3, .int l3)]) d_X4_takeItem_52 (by decide) rfl ?_
  refine G_iload_n d_X4_takeItem_54 rfl 5 rfl ?_
  refine G_if_eq (tgt := 63) d_X4_takeItem_55 rfl (fun c0 => ?_) (fun c0 => ?_)
  ·
    refine G_sub (L' := [(0, .ref r0), (1, .ref r1), (2, .ref r2), (3, .int l3), (5, .int 0)]) [2, 3, 4, 5, 0] rfl ?_
    exact (h c0)
  ·
    refine G_iload_n d_X4_takeItem_58 rfl 5 rfl ?_
    refine G_iconst d_X4_takeItem_59 ic_1 ?_
    refine G_icmp_ne (tgt := 73) d_X4_takeItem_60 rfl (fun c1 => ?_) (fun c1 => ?_)
    ·
      refine G_iload_n d_X4_takeItem_73 rfl 5 rfl ?_
      refine G_iconst d_X4_takeItem_74 ic_2 ?_
      refine G_icmp_eq (tgt := 88) d_X4_takeItem_75 rfl (fun c2 => ?_) (fun c2 => ?_)
      ·
        refine G_sub (L' := [(0, .ref r0), (1, .ref r1), (2, .ref r2), (3, .int l3), (5, .int 0)]) [2, 3, 4, 5, 0] rfl ?_
        exact (h_2 c0 c1 c2)
      ·
        refine G_iload_n d_X4_takeItem_78 rfl 5 rfl ?_
        refine G_iconst d_X4_takeItem_79 ic_3 ?_
        refine G_icmp_eq (tgt := 88) d_X4_takeItem_80 rfl (fun c3 => ?_) (fun c3 => ?_)
        ·
          refine G_sub (L' := [(0, .ref r0), (1, .ref r1), (2, .ref r2), (3, .int l3), (5, .int 0)]) [2, 3, 4, 5, 0] rfl ?_
          exact (h_3 c0 c1 c2 c3)
        ·
          refine G_iload_n d_X4_takeItem_83 rfl 5 rfl ?_
          refine G_iconst d_X4_takeItem_84 ic_4 ?_
          refine G_icmp_ne (tgt := 96) d_X4_takeItem_85 rfl (fun c4 => ?_) (fun c4 => ?_)
          ·
            refine G_sub (L' := [(0, .ref r0), (1, .ref r1), (2, .ref r2), (3, .int l3), (4, .int 0), (5, .int 0)]) [2, 3, 4, 5, 1, 0] rfl ?_
            exact (h_4 c0 c1 c2 c3 c4)
          ·
            refine G_sub (L' := [(0, .ref r0), (1, .ref r1), (2, .ref r2), (3, .int l3), (5, .int 0)]) [2, 3, 4, 5, 0] rfl ?_
            exact (h_5 c0 c1 c2 c3 c4)
    ·
      refine G_sub (L' := [(0, .ref r0), (1, .ref r1), (2, .ref r2), (3, .int l3), (5, .int 0)]) [2, 3, 4, 5, 0] rfl ?_
      exact (h_6 c0 c1)
theorem b_X4_takeItem_63 {X : cX} {d : Nat} {μ : mM} {K : Option Value → mM → Prop} {r0 : Nat} {r1 : Nat} {r2 : Nat} {l3 : Int32} {l5 : Int32} (hw4_r0 : WF4 μ r0) (hc_takeVariable : Ct X (Rm (d + 5)) mX4_takeVariable [.ref r0, .ref r1] μ (fun r μ2 => G X (Rm (d + 6)) mX4_takeItem 68 [(0, .ref r0), (1, .ref r1), (2, .ref r2), (3, .int l3), (5, .int l5)] (r.toList ++ []) μ2 0 0 K)) : G X (Rm (d + 6)) mX4_takeItem 63 [(0, .ref r0), (1, .ref r1), (2, .ref r2), (3, .int l3), (5, .int l5)] [] μ 0 0 K := by
  refine G_aload_n d_X4_takeItem_63 rfl 0 rfl ?_
  refine G_aload_n d_X4_takeItem_64 rfl 1 rfl ?_
  refine G_callV (M' := mX4_takeVariable) (R' := (Rm (d + 5))) (S := []) [.ref r1] 4 (w4_kd hw4_r0) cok4 rfl ok_X4_takeVariable ml_X4_107 pn_X4_takeVariable (ru_Rm (by decide)) (Nat.le_of_ble_eq_true rfl) d_X4_takeItem_65 ?_
  exact hc_takeVariable
theorem b_X4_takeItem_68 {X : cX} {d : Nat} {μ : mM} {K : Option Value → mM → Prop} {r0 : Nat} {r1 : Nat} {r2 : Nat} {l3 : Int32} {l5 : Int32} {v0 : Int32} (h : G X (Rm (d + 6)) mX4_takeItem 96 [(0, .ref r0), (1, .ref r1), (2, .ref r2), (3, .int l3), (4, .int v0), (5, .int l5)] [] μ 0 0 K) : G X (Rm (d + 6)) mX4_takeItem 68 [(0, .ref r0), (1, .ref r1), (2, .ref r2), (3, .int l3), (5, .int l5)] [.int v0] μ 0 0 K := by
  refine G_istore (L' := [(4, .int v0), (0, .ref r0), (1, .ref r1), (2, .ref r2), (3, .int l3), (5, .int l5)]) d_X4_takeItem_68 (by decide) rfl ?_
  refine G_goto (tgt := 96) d_X4_takeItem_70 rfl ?_
  refine G_sub (L' := [(0, .ref r0), (1, .ref r1), (2, .ref r2), (3, .int l3), (4, .int v0), (5, .int l5)]) [1, 2, 3, 4, 0, 5] rfl ?_
  exact h
theorem b_X4_takeItem_88 {X : cX} {d : Nat} {μ : mM} {K : Option Value → mM → Prop} {r0 : Nat} {r1 : Nat} {r2 : Nat} {l3 : Int32} {l5 : Int32} (hw4_r0 : WF4 μ r0) (hc_takeLetter : Ct X (Rm (d + 5)) mX4_takeLetter [.ref r0, .ref r1, .ref r2] μ (fun r μ2 => G X (Rm (d + 6)) mX4_takeItem 94 [(0, .ref r0), (1, .ref r1), (2, .ref r2), (3, .int l3), (5, .int l5)] (r.toList ++ []) μ2 0 0 K)) : G X (Rm (d + 6)) mX4_takeItem 88 [(0, .ref r0), (1, .ref r1), (2, .ref r2), (3, .int l3), (5, .int l5)] [] μ 0 0 K := by
  refine G_aload_n d_X4_takeItem_88 rfl 0 rfl ?_
  refine G_aload_n d_X4_takeItem_89 rfl 1 rfl ?_
  refine G_aload_n d_X4_takeItem_90 rfl 2 rfl ?_
  refine G_callV (M' := mX4_takeLetter) (R' := (Rm (d + 5))) (S := []) [.ref r1, .ref r2] 4 (w4_kd hw4_r0) cok4 rfl ok_X4_takeLetter ml_X4_170 pn_X4_takeLetter (ru_Rm (by decide)) (Nat.le_of_ble_eq_true rfl) d_X4_takeItem_91 ?_
  exact hc_takeLetter
theorem b_X4_takeItem_94 {X : cX} {d : Nat} {μ : mM} {K : Option Value → mM → Prop} {r0 : Nat} {r1 : Nat} {r2 : Nat} {l3 : Int32} {l5 : Int32} {v0 : Int32} (h : G X (Rm (d + 6)) mX4_takeItem 96 [(0, .ref r0), (1, .ref r1), (2, .ref r2), (3, .int l3), (4, .int v0), (5, .int l5)] [] μ 0 0 K) : G X (Rm (d + 6)) mX4_takeItem 94 [(0, .ref r0), (1, .ref r1), (2, .ref r2), (3, .int l3), (5, .int l5)] [.int v0] μ 0 0 K := by
  refine G_istore (L' := [(4, .int v0), (0, .ref r0), (1, .ref r1), (2, .ref r2), (3, .int l3), (5, .int l5)]) d_X4_takeItem_94 (by decide) rfl ?_
  refine G_sub (L' := [(0, .ref r0), (1, .ref r1), (2, .ref r2), (3, .int l3), (4, .int v0), (5, .int l5)]) [1, 2, 3, 4, 0, 5] rfl ?_
  exact h
theorem b_X4_takeItem_96 {X : cX} {d : Nat} {μ : mM} {K : Option Value → mM → Prop} {r0 : Nat} {r1 : Nat} {r2 : Nat} {l3 : Int32} {l4 : Int32} {l5 : Int32} (h : l4 < 0 → G X (Rm (d + 6)) mX4_takeItem 114 [(2, .ref r2), (3, .int l3), (4, .int l4), (5, .int l5)] [] μ 0 0 K) (h_2 : ¬ l4 < 0 → (4 : Int32) ≤ l3 → G X (Rm (d + 6)) mX4_takeItem 114 [(2, .ref r2), (3, .int l3), (4, .int l4), (5, .int l5)] [] μ 0 0 K) (hw4_r0 : WF4 μ r0) (hc_takeLetter : ¬ l4 < 0 → ¬ (4 : Int32) ≤ l3 → Ct X (Rm (d + 5)) mX4_takeLetter [.ref r0, .ref r1, .ref r2] μ (fun r μ2 => G X (Rm (d + 6)) mX4_takeItem 112 [(2, .ref r2), (3, .int l3), (4, .int l4)] (r.toList ++ []) μ2 0 0 K)) : G X (Rm (d + 6)) mX4_takeItem 96 [(0, .ref r0), (1, .ref r1), (2, .ref r2), (3, .int l3), (4, .int l4), (5, .int l5)] [] μ 0 0 K := by
  refine G_iload d_X4_takeItem_96 4 rfl ?_
  refine G_if_lt (tgt := 114) d_X4_takeItem_98 rfl (fun c0 => ?_) (fun c0 => ?_)
  ·
    refine G_sub (L' := [(2, .ref r2), (3, .int l3), (4, .int l4), (5, .int l5)]) [2, 3, 4, 5] rfl ?_
    exact (h c0)
  ·
    refine G_iload_n d_X4_takeItem_101 rfl 3 rfl ?_
    refine G_iconst d_X4_takeItem_102 ic_4 ?_
    refine G_icmp_ge (tgt := 114) d_X4_takeItem_103 rfl (fun c1 => ?_) (fun c1 => ?_)
    ·
      refine G_sub (L' := [(2, .ref r2), (3, .int l3), (4, .int l4), (5, .int l5)]) [2, 3, 4, 5] rfl ?_
      exact (h_2 c0 c1)
    ·
      refine G_aload_n d_X4_takeItem_106 rfl 0 rfl ?_
      refine G_aload_n d_X4_takeItem_107 rfl 1 rfl ?_
      refine G_aload_n d_X4_takeItem_108 rfl 2 rfl ?_
      refine G_sub (L' := [(2, .ref r2), (3, .int l3), (4, .int l4)]) [2, 3, 4] rfl ?_
      refine G_callV (M' := mX4_takeLetter) (R' := (Rm (d + 5))) (S := []) [.ref r1, .ref r2] 4 (w4_kd hw4_r0) cok4 rfl ok_X4_takeLetter ml_X4_170 pn_X4_takeLetter (ru_Rm (by decide)) (Nat.le_of_ble_eq_true rfl) d_X4_takeItem_109 ?_
      exact (hc_takeLetter c0 c1)
theorem b_X4_takeItem_112 {X : cX} {d : Nat} {μ : mM} {K : Option Value → mM → Prop} {r2 : Nat} {l3 : Int32} {l4 : Int32} {v0 : Int32} (h : G X (Rm (d + 6)) mX4_takeItem 114 [(2, .ref r2), (3, .int l3), (4, .int l4), (5, .int v0)] [] μ 0 0 K) : G X (Rm (d + 6)) mX4_takeItem 112 [(2, .ref r2), (3, .int l3), (4, .int l4)] [.int v0] μ 0 0 K := by
  refine G_istore (L' := [(5, .int v0), (2, .ref r2), (3, .int l3), (4, .int l4)]) d_X4_takeItem_112 (by decide) rfl ?_
  refine G_sub (L' := [(2, .ref r2), (3, .int l3), (4, .int l4), (5, .int v0)]) [1, 2, 3, 0] rfl ?_
  exact h
theorem b_X4_takeItem_114 {X : cX} {d : Nat} {μ : mM} {K : Option Value → mM → Prop} {r2 : Nat} {l3 : Int32} {l4 : Int32} {l5 : Int32} (hK : l4 < 0 → K (some (.int 0)) μ) (hw3_r2 : WF3 μ r2) (hc_putItem : ¬ l4 < 0 → 0 ≤ l5 → Ct X (Rm (d + 5)) mX3_putItem [.ref r2, .int l3, .int l4, .int l5] μ (fun r μ2 => G X (Rm (d + 6)) mX4_takeItem 135 [] (r.toList ++ []) μ2 0 0 K)) (hK_2 : ¬ l4 < 0 → ¬ 0 ≤ l5 → K (some (.int 0)) μ) : G X (Rm (d + 6)) mX4_takeItem 114 [(2, .ref r2), (3, .int l3), (4, .int l4), (5, .int l5)] [] μ 0 0 K := by
  refine G_iload d_X4_takeItem_114 2 rfl ?_
  refine G_if_lt (tgt := 124) d_X4_takeItem_116 rfl (fun c0 => ?_) (fun c0 => ?_)
  ·
    refine G_iconst d_X4_takeItem_124 ic_0 ?_
    exact G_zret rfl rfl rfl rfl d_X4_takeItem_125 (hK c0)
  ·
    refine G_iload d_X4_takeItem_119 3 rfl ?_
    refine G_if_ge (tgt := 126) d_X4_takeItem_121 rfl (fun c1 => ?_) (fun c1 => ?_)
    ·
      refine G_aload_n d_X4_takeItem_126 rfl 0 rfl ?_
      refine G_iload_n d_X4_takeItem_127 rfl 1 rfl ?_
      refine G_iload d_X4_takeItem_128 2 rfl ?_
      refine G_iload d_X4_takeItem_130 3 rfl ?_
      refine G_sub (L' := []) [] rfl ?_
      refine G_callV (M' := mX3_putItem) (R' := (Rm (d + 5))) (S := []) [.int l3, .int l4, .int l5] 3 (w3_kd hw3_r2) cok3 rfl ok_X3_putItem ml_X4_174 pn_X3_putItem (ru_Rm (by decide)) (Nat.le_of_ble_eq_true rfl) d_X4_takeItem_132 ?_
      exact (hc_putItem c0 c1)
    ·
      refine G_iconst d_X4_takeItem_124 ic_0 ?_
      exact G_zret rfl rfl rfl rfl d_X4_takeItem_125 (hK_2 c0 c1)
theorem b_X4_takeItem_135 {X : cX} {d : Nat} {μ : mM} {K : Option Value → mM → Prop}  (hK : K (some (.int 1)) μ) : G X (Rm (d + 6)) mX4_takeItem 135 [] [] μ 0 0 K := by
  refine G_iconst d_X4_takeItem_135 ic_1 ?_
  exact G_zret rfl rfl rfl rfl d_X4_takeItem_136 hK
theorem d_X4_takeAsk_0 : decode cX4_takeAsk 0 = .ok (.aload_n 0, 1) := by decide +kernel
theorem d_X4_takeAsk_1 : decode cX4_takeAsk 1 = .ok (.getfield 12, 3) := by decide +kernel
theorem d_X4_takeAsk_4 : decode cX4_takeAsk 4 = .ok (.getfield 122, 3) := by decide +kernel
theorem d_X4_takeAsk_7 : decode cX4_takeAsk 7 = .ok (.iconst 4, 1) := by decide +kernel
theorem d_X4_takeAsk_8 : decode cX4_takeAsk 8 = .ok (.if_icmp .lt 10, 3) := by decide +kernel
theorem d_X4_takeAsk_11 : decode cX4_takeAsk 11 = .ok (.aload_n 0, 1) := by decide +kernel
theorem d_X4_takeAsk_12 : decode cX4_takeAsk 12 = .ok (.aload_n 1, 1) := by decide +kernel
theorem d_X4_takeAsk_13 : decode cX4_takeAsk 13 = .ok (.iconst 5, 1) := by decide +kernel
theorem d_X4_takeAsk_14 : decode cX4_takeAsk 14 = .ok (.invokevirtual 55, 3) := by decide +kernel
theorem d_X4_takeAsk_17 : decode cX4_takeAsk 17 = .ok (.ireturn, 1) := by decide +kernel
theorem d_X4_takeAsk_18 : decode cX4_takeAsk 18 = .ok (.aload_n 0, 1) := by decide +kernel
theorem d_X4_takeAsk_19 : decode cX4_takeAsk 19 = .ok (.getfield 12, 3) := by decide +kernel
theorem d_X4_takeAsk_22 : decode cX4_takeAsk 22 = .ok (.getfield 125, 3) := by decide +kernel
theorem d_X4_takeAsk_25 : decode cX4_takeAsk 25 = .ok (.aload_n 0, 1) := by decide +kernel
theorem d_X4_takeAsk_26 : decode cX4_takeAsk 26 = .ok (.getfield 12, 3) := by decide +kernel
theorem d_X4_takeAsk_29 : decode cX4_takeAsk 29 = .ok (.getfield 122, 3) := by decide +kernel
theorem d_X4_takeAsk_32 : decode cX4_takeAsk 32 = .ok (.aaload, 1) := by decide +kernel
theorem d_X4_takeAsk_33 : decode cX4_takeAsk 33 = .ok (.astore_n 2, 1) := by decide +kernel
theorem d_X4_takeAsk_34 : decode cX4_takeAsk 34 = .ok (.aload_n 2, 1) := by decide +kernel
theorem d_X4_takeAsk_35 : decode cX4_takeAsk 35 = .ok (.invokevirtual 129, 3) := by decide +kernel
theorem d_X4_takeAsk_38 : decode cX4_takeAsk 38 = .ok (.aload_n 0, 1) := by decide +kernel
theorem d_X4_takeAsk_39 : decode cX4_takeAsk 39 = .ok (.getfield 12, 3) := by decide +kernel
theorem d_X4_takeAsk_42 : decode cX4_takeAsk 42 = .ok (.dup, 1) := by decide +kernel
theorem d_X4_takeAsk_43 : decode cX4_takeAsk 43 = .ok (.getfield 122, 3) := by decide +kernel
theorem d_X4_takeAsk_46 : decode cX4_takeAsk 46 = .ok (.iconst 1, 1) := by decide +kernel
theorem d_X4_takeAsk_47 : decode cX4_takeAsk 47 = .ok (.iadd, 1) := by decide +kernel
theorem d_X4_takeAsk_48 : decode cX4_takeAsk 48 = .ok (.putfield 122, 3) := by decide +kernel
theorem d_X4_takeAsk_51 : decode cX4_takeAsk 51 = .ok (.aload_n 1, 1) := by decide +kernel
theorem d_X4_takeAsk_52 : decode cX4_takeAsk 52 = .ok (.invokevirtual 100, 3) := by decide +kernel
theorem d_X4_takeAsk_55 : decode cX4_takeAsk 55 = .ok (.iconst 0, 1) := by decide +kernel
theorem d_X4_takeAsk_56 : decode cX4_takeAsk 56 = .ok (.istore_n 3, 1) := by decide +kernel
theorem d_X4_takeAsk_57 : decode cX4_takeAsk 57 = .ok (.iload_n 3, 1) := by decide +kernel
theorem d_X4_takeAsk_58 : decode cX4_takeAsk 58 = .ok (.iconst 3, 1) := by decide +kernel
theorem d_X4_takeAsk_59 : decode cX4_takeAsk 59 = .ok (.if_icmp .gt 38, 3) := by decide +kernel
theorem d_X4_takeAsk_62 : decode cX4_takeAsk 62 = .ok (.aload_n 1, 1) := by decide +kernel
theorem d_X4_takeAsk_63 : decode cX4_takeAsk 63 = .ok (.ldc 132, 2) := by decide +kernel
theorem d_X4_takeAsk_65 : decode cX4_takeAsk 65 = .ok (.invokevirtual 64, 3) := by decide +kernel
theorem d_X4_takeAsk_68 : decode cX4_takeAsk 68 = .ok (.ifCond .ne 12, 3) := by decide +kernel
theorem d_X4_takeAsk_71 : decode cX4_takeAsk 71 = .ok (.aload_n 1, 1) := by decide +kernel
theorem d_X4_takeAsk_72 : decode cX4_takeAsk 72 = .ok (.ldc 134, 2) := by decide +kernel
theorem d_X4_takeAsk_74 : decode cX4_takeAsk 74 = .ok (.invokevirtual 64, 3) := by decide +kernel
theorem d_X4_takeAsk_77 : decode cX4_takeAsk 77 = .ok (.ifCond .eq 20, 3) := by decide +kernel
theorem d_X4_takeAsk_80 : decode cX4_takeAsk 80 = .ok (.aload_n 0, 1) := by decide +kernel
theorem d_X4_takeAsk_81 : decode cX4_takeAsk 81 = .ok (.aload_n 1, 1) := by decide +kernel
theorem d_X4_takeAsk_82 : decode cX4_takeAsk 82 = .ok (.aload_n 2, 1) := by decide +kernel
theorem d_X4_takeAsk_83 : decode cX4_takeAsk 83 = .ok (.invokevirtual 136, 3) := by decide +kernel
theorem d_X4_takeAsk_86 : decode cX4_takeAsk 86 = .ok (.ifCond .ne 5, 3) := by decide +kernel
theorem d_X4_takeAsk_89 : decode cX4_takeAsk 89 = .ok (.iconst 0, 1) := by decide +kernel
theorem d_X4_takeAsk_90 : decode cX4_takeAsk 90 = .ok (.ireturn, 1) := by decide +kernel
theorem d_X4_takeAsk_91 : decode cX4_takeAsk 91 = .ok (.iinc 3 1, 3) := by decide +kernel
theorem d_X4_takeAsk_94 : decode cX4_takeAsk 94 = .ok (.goto (-37), 3) := by decide +kernel
theorem d_X4_takeAsk_97 : decode cX4_takeAsk 97 = .ok (.aload_n 0, 1) := by decide +kernel
theorem d_X4_takeAsk_98 : decode cX4_takeAsk 98 = .ok (.aload_n 1, 1) := by decide +kernel
theorem d_X4_takeAsk_99 : decode cX4_takeAsk 99 = .ok (.bipush 58, 2) := by decide +kernel
theorem d_X4_takeAsk_101 : decode cX4_takeAsk 101 = .ok (.invokevirtual 103, 3) := by decide +kernel
theorem d_X4_takeAsk_104 : decode cX4_takeAsk 104 = .ok (.ifCond .ne 5, 3) := by decide +kernel
theorem d_X4_takeAsk_107 : decode cX4_takeAsk 107 = .ok (.iconst 0, 1) := by decide +kernel
theorem d_X4_takeAsk_108 : decode cX4_takeAsk 108 = .ok (.ireturn, 1) := by decide +kernel
theorem d_X4_takeAsk_109 : decode cX4_takeAsk 109 = .ok (.iconst 0, 1) := by decide +kernel
theorem d_X4_takeAsk_110 : decode cX4_takeAsk 110 = .ok (.istore_n 3, 1) := by decide +kernel
theorem d_X4_takeAsk_111 : decode cX4_takeAsk 111 = .ok (.iload_n 3, 1) := by decide +kernel
theorem d_X4_takeAsk_112 : decode cX4_takeAsk 112 = .ok (.bipush 12, 2) := by decide +kernel
theorem d_X4_takeAsk_114 : decode cX4_takeAsk 114 = .ok (.if_icmp .gt 33, 3) := by decide +kernel
theorem d_X4_takeAsk_117 : decode cX4_takeAsk 117 = .ok (.iload_n 3, 1) := by decide +kernel
theorem d_X4_takeAsk_118 : decode cX4_takeAsk 118 = .ok (.ifCond .eq 12, 3) := by decide +kernel
theorem d_X4_takeAsk_121 : decode cX4_takeAsk 121 = .ok (.aload_n 1, 1) := by decide +kernel
theorem d_X4_takeAsk_122 : decode cX4_takeAsk 122 = .ok (.bipush 59, 2) := by decide +kernel
theorem d_X4_takeAsk_124 : decode cX4_takeAsk 124 = .ok (.invokevirtual 140, 3) := by decide +kernel
theorem d_X4_takeAsk_127 : decode cX4_takeAsk 127 = .ok (.ifCond .ne 20, 3) := by decide +kernel
theorem d_X4_takeAsk_130 : decode cX4_takeAsk 130 = .ok (.aload_n 0, 1) := by decide +kernel
theorem d_X4_takeAsk_131 : decode cX4_takeAsk 131 = .ok (.aload_n 1, 1) := by decide +kernel
theorem d_X4_takeAsk_132 : decode cX4_takeAsk 132 = .ok (.aload_n 2, 1) := by decide +kernel
theorem d_X4_takeAsk_133 : decode cX4_takeAsk 133 = .ok (.invokevirtual 144, 3) := by decide +kernel
theorem d_X4_takeAsk_136 : decode cX4_takeAsk 136 = .ok (.ifCond .ne 5, 3) := by decide +kernel
theorem d_X4_takeAsk_139 : decode cX4_takeAsk 139 = .ok (.iconst 0, 1) := by decide +kernel
theorem d_X4_takeAsk_140 : decode cX4_takeAsk 140 = .ok (.ireturn, 1) := by decide +kernel
theorem d_X4_takeAsk_141 : decode cX4_takeAsk 141 = .ok (.iinc 3 1, 3) := by decide +kernel
theorem d_X4_takeAsk_144 : decode cX4_takeAsk 144 = .ok (.goto (-33), 3) := by decide +kernel
theorem d_X4_takeAsk_147 : decode cX4_takeAsk 147 = .ok (.aload_n 2, 1) := by decide +kernel
theorem d_X4_takeAsk_148 : decode cX4_takeAsk 148 = .ok (.getfield 147, 3) := by decide +kernel
theorem d_X4_takeAsk_151 : decode cX4_takeAsk 151 = .ok (.iconst 1, 1) := by decide +kernel
theorem d_X4_takeAsk_152 : decode cX4_takeAsk 152 = .ok (.if_icmp .ne 13, 3) := by decide +kernel
theorem d_X4_takeAsk_155 : decode cX4_takeAsk 155 = .ok (.aload_n 0, 1) := by decide +kernel
theorem d_X4_takeAsk_156 : decode cX4_takeAsk 156 = .ok (.aload_n 1, 1) := by decide +kernel
theorem d_X4_takeAsk_157 : decode cX4_takeAsk 157 = .ok (.bipush 59, 2) := by decide +kernel
theorem d_X4_takeAsk_159 : decode cX4_takeAsk 159 = .ok (.invokevirtual 103, 3) := by decide +kernel
theorem d_X4_takeAsk_162 : decode cX4_takeAsk 162 = .ok (.goto 9, 3) := by decide +kernel
theorem d_X4_takeAsk_165 : decode cX4_takeAsk 165 = .ok (.aload_n 0, 1) := by decide +kernel
theorem d_X4_takeAsk_166 : decode cX4_takeAsk 166 = .ok (.aload_n 1, 1) := by decide +kernel
theorem d_X4_takeAsk_167 : decode cX4_takeAsk 167 = .ok (.iconst 4, 1) := by decide +kernel
theorem d_X4_takeAsk_168 : decode cX4_takeAsk 168 = .ok (.invokevirtual 55, 3) := by decide +kernel
theorem d_X4_takeAsk_171 : decode cX4_takeAsk 171 = .ok (.ireturn, 1) := by decide +kernel
theorem b_X4_takeAsk_0 {X : cX} {d : Nat} {μ : mM} {K : Option Value → mM → Prop} {r0 : Nat} {r1 : Nat} {p0 : Nat} {j0 : Nat} (hw4_r0 : WF4 μ r0) (hr_p0 : rv μ r0 0 = some p0) (hw10_p0 : WF10 μ p0) (hi_j0 : (iv μ p0 2) < (4 : Int32) → iv μ p0 2 = nI j0) (hb : (iv μ p0 2) < (4 : Int32) → j0 < 4) (hw3_p0268j0 : WF3 μ (p0 + 26 + 8 * j0)) (hc_clear : (iv μ p0 2) < (4 : Int32) → Ct X (Rm (d + 6)) mX3_clear [.ref (p0 + 26 + 8 * j0)] μ (fun r μ2 => G X (Rm (d + 7)) mX4_takeAsk 38 [(0, .ref r0), (1, .ref r1), (2, .ref (p0 + 26 + 8 * j0))] (r.toList ++ []) μ2 0 0 K)) (hc_refuse : ¬ (iv μ p0 2) < (4 : Int32) → Ct X (Rm (d + 6)) mX4_refuse [.ref r0, .ref r1, .int 5] μ (fun r μ2 => G X (Rm (d + 7)) mX4_takeAsk 17 [] (r.toList ++ []) μ2 0 0 K)) : G X (Rm (d + 7)) mX4_takeAsk 0 [(0, .ref r0), (1, .ref r1)] [] μ 0 0 K := by
  refine G_aload_n d_X4_takeAsk_0 rfl 0 rfl ?_
  refine G_getR (r := p0) 4 0 (w4_kd hw4_r0) hr_p0 cok4 (by decide) rfl fl_X4_12 d_X4_takeAsk_1 ?_
  refine G_getI 10 2 (w10_kd hw10_p0) cok10 (by decide) rfl fl_X4_122 d_X4_takeAsk_4 ?_
  refine G_iconst d_X4_takeAsk_7 ic_4 ?_
  refine G_icmp_lt (tgt := 18) d_X4_takeAsk_8 rfl (fun c0 => ?_) (fun c0 => ?_)
  ·
    refine G_aload_n d_X4_takeAsk_18 rfl 0 rfl ?_
    refine G_getR (r := p0) 4 0 (w4_kd hw4_r0) hr_p0 cok4 (by decide) rfl fl_X4_12 d_X4_takeAsk_19 ?_
    refine G_getR (r := p0 + 25) 10 1 (w10_kd hw10_p0) (w10_f1 hw10_p0) cok10 (by decide) rfl fl_X4_125 d_X4_takeAsk_22 ?_
    refine G_aload_n d_X4_takeAsk_25 rfl 0 rfl ?_
    refine G_getR (r := p0) 4 0 (w4_kd hw4_r0) hr_p0 cok4 (by decide) rfl fl_X4_12 d_X4_takeAsk_26 ?_
    refine G_getI 10 2 (w10_kd hw10_p0) cok10 (by decide) rfl fl_X4_122 d_X4_takeAsk_29 ?_
    refine G_aaldF (r := p0 + 26 + 8 * j0) j0 (w10_k1 hw10_p0) (hi_j0 c0) (hb c0) (w10_r1 hw10_p0 j0 (hb c0)) d_X4_takeAsk_32 ?_
    refine G_astore_n (L' := [(2, .ref (p0 + 26 + 8 * j0)), (0, .ref r0), (1, .ref r1)]) d_X4_takeAsk_33 rfl (by decide) rfl ?_
    refine G_aload_n d_X4_takeAsk_34 rfl 0 rfl ?_
    refine G_sub (L' := [(0, .ref r0), (1, .ref r1), (2, .ref (p0 + 26 + 8 * j0))]) [1, 2, 0] rfl ?_
    refine G_callV (M' := mX3_clear) (R' := (Rm (d + 6))) (S := []) [] 3 (w3_kd hw3_p0268j0) cok3 rfl ok_X3_clear ml_X4_129 pn_X3_clear (ru_Rm (by decide)) (Nat.le_of_ble_eq_true rfl) d_X4_takeAsk_35 ?_
    exact (hc_clear c0)
  ·
    refine G_aload_n d_X4_takeAsk_11 rfl 0 rfl ?_
    refine G_aload_n d_X4_takeAsk_12 rfl 1 rfl ?_
    refine G_iconst d_X4_takeAsk_13 ic_5 ?_
    refine G_sub (L' := []) [] rfl ?_
    refine G_callV (M' := mX4_refuse) (R' := (Rm (d + 6))) (S := []) [.ref r1, .int 5] 4 (w4_kd hw4_r0) cok4 rfl ok_X4_refuse ml_X4_55 pn_X4_refuse (ru_Rm (by decide)) (Nat.le_of_ble_eq_true rfl) d_X4_takeAsk_14 ?_
    exact (hc_refuse c0)
theorem b_X4_takeAsk_17 {X : cX} {d : Nat} {μ : mM} {K : Option Value → mM → Prop} {v0 : Int32} (hK : K (some (.int v0)) μ) (hz : v0 = 0 ∨ v0 = 1) : G X (Rm (d + 7)) mX4_takeAsk 17 [] [.int v0] μ 0 0 K := by
  exact G_zret rfl (nar_b hz) rfl rfl d_X4_takeAsk_17 hK
theorem b_X4_takeAsk_38 {X : cX} {d : Nat} {μ : mM} {K : Option Value → mM → Prop} {r0 : Nat} {r1 : Nat} {r2 : Nat} {p0 : Nat} (hw4_r0 : WF4 μ r0) (hr_p0 : rv μ r0 0 = some p0) (hw10_p0 : WF10 μ p0) (hw9_r1 : WF9 μ r1) (hc_advance : Ct X (Rm (d + 6)) mX9_advance [.ref r1] (wi μ p0 2 ((iv μ p0 2) + 1)) (fun r μ2 => G X (Rm (d + 7)) mX4_takeAsk 55 [(0, .ref r0), (1, .ref r1), (2, .ref r2)] (r.toList ++ []) μ2 0 0 K)) : G X (Rm (d + 7)) mX4_takeAsk 38 [(0, .ref r0), (1, .ref r1), (2, .ref r2)] [] μ 0 0 K := by
  refine G_aload_n d_X4_takeAsk_38 rfl 0 rfl ?_
  refine G_getR (r := p0) 4 0 (w4_kd hw4_r0) hr_p0 cok4 (by decide) rfl fl_X4_12 d_X4_takeAsk_39 ?_
  refine G_dup d_X4_takeAsk_42 rfl ?_
  refine G_getI 10 2 (w10_kd hw10_p0) cok10 (by decide) rfl fl_X4_122 d_X4_takeAsk_43 ?_
  refine G_iconst d_X4_takeAsk_46 ic_1 ?_
  refine G_iadd d_X4_takeAsk_47 ?_
  refine G_putI 10 2 (w10_kd hw10_p0) rfl rfl cok10 (by decide) rfl (Or.inl rfl) fl_X4_122 d_X4_takeAsk_48 ?_
  refine G_aload_n d_X4_takeAsk_51 rfl 1 rfl ?_
  refine G_callV (M' := mX9_advance) (R' := (Rm (d + 6))) (S := []) [] 9 (w9_kd hw9_r1) cok9 rfl ok_X9_advance ml_X4_100 pn_X9_advance (ru_Rm (by decide)) (Nat.le_of_ble_eq_true rfl) d_X4_takeAsk_52 ?_
  exact hc_advance
theorem b_X4_takeAsk_55 {X : cX} {d : Nat} {μ : mM} {K : Option Value → mM → Prop} {r0 : Nat} {r1 : Nat} {r2 : Nat} (h : G X (Rm (d + 7)) mX4_takeAsk 57 [(0, .ref r0), (1, .ref r1), (2, .ref r2), (3, .int (nI 0))] [] μ 0 0 K) : G X (Rm (d + 7)) mX4_takeAsk 55 [(0, .ref r0), (1, .ref r1), (2, .ref r2)] [] μ 0 0 K := by
  refine G_iconst d_X4_takeAsk_55 ic_0 ?_
  refine G_istore_n (L' := [(3, .int (nI 0)), (0, .ref r0), (1, .ref r1), (2, .ref r2)]) d_X4_takeAsk_56 rfl (by decide) rfl ?_
  refine G_sub (L' := [(0, .ref r0), (1, .ref r1), (2, .ref r2), (3, .int (nI 0))]) [1, 2, 3, 0] rfl ?_
  exact h
theorem b_X4_takeAsk_57 {X : cX} {d : Nat} {μ : mM} {K : Option Value → mM → Prop} {r0 : Nat} {r1 : Nat} {r2 : Nat} {l3 : Int32} (h : (3 : Int32) < l3 → G X (Rm (d + 7)) mX4_takeAsk 97 [(0, .ref r0), (1, .ref r1), (2, .ref r2)] [] μ 0 0 K) (hw9_r1 : WF9 μ r1) (hc_isName : ¬ (3 : Int32) < l3 → Ct X (Rm (d + 6)) mX9_isName [.ref r1, .ref (X.2.2.2.2.1 6)] μ (fun r μ2 => G X (Rm (d + 7)) mX4_takeAsk 68 [(0, .ref r0), (1, .ref r1), (2, .ref r2), (3, .int l3)] (r.toList ++ []) μ2 0 0 K)) : G X (Rm (d + 7)) mX4_takeAsk 57 [(0, .ref r0), (1, .ref r1), (2, .ref r2), (3, .int l3)] [] μ 0 0 K := by
  refine G_iload_n d_X4_takeAsk_57 rfl 3 rfl ?_
  refine G_iconst d_X4_takeAsk_58 ic_3 ?_
  refine G_icmp_gt (tgt := 97) d_X4_takeAsk_59 rfl (fun c0 => ?_) (fun c0 => ?_)
  ·
    refine G_sub (L' := [(0, .ref r0), (1, .ref r1), (2, .ref r2)]) [0, 1, 2] rfl ?_
    exact (h c0)
  ·
    refine G_aload_n d_X4_takeAsk_62 rfl 1 rfl ?_
    refine G_ldcS 6 (by decide) rfl rfl d_X4_takeAsk_63 ?_
    refine G_callV (M' := mX9_isName) (R' := (Rm (d + 6))) (S := []) [.ref (X.2.2.2.2.1 6)] 9 (w9_kd hw9_r1) cok9 rfl ok_X9_isName ml_X4_64 pn_X9_isName (ru_Rm (by decide)) (Nat.le_of_ble_eq_true rfl) d_X4_takeAsk_65 ?_
    exact (hc_isName c0)
theorem b_X4_takeAsk_68 {X : cX} {d : Nat} {μ : mM} {K : Option Value → mM → Prop} {r0 : Nat} {r1 : Nat} {r2 : Nat} {l3 : Int32} {v0 : Int32} (h : ¬ v0 = 0 → G X (Rm (d + 7)) mX4_takeAsk 80 [(0, .ref r0), (1, .ref r1), (2, .ref r2), (3, .int l3)] [] μ 0 0 K) (hw9_r1 : WF9 μ r1) (hc_isName : v0 = 0 → Ct X (Rm (d + 6)) mX9_isName [.ref r1, .ref (X.2.2.2.2.1 7)] μ (fun r μ2 => G X (Rm (d + 7)) mX4_takeAsk 77 [(0, .ref r0), (1, .ref r1), (2, .ref r2), (3, .int l3)] (r.toList ++ []) μ2 0 0 K)) : G X (Rm (d + 7)) mX4_takeAsk 68 [(0, .ref r0), (1, .ref r1), (2, .ref r2), (3, .int l3)] [.int v0] μ 0 0 K := by
  refine G_if_ne (tgt := 80) d_X4_takeAsk_68 rfl (fun c0 => ?_) (fun c0 => ?_)
  ·
    exact (h c0)
  ·
    refine G_aload_n d_X4_takeAsk_71 rfl 1 rfl ?_
    refine G_ldcS 7 (by decide) rfl rfl d_X4_takeAsk_72 ?_
    refine G_callV (M' := mX9_isName) (R' := (Rm (d + 6))) (S := []) [.ref (X.2.2.2.2.1 7)] 9 (w9_kd hw9_r1) cok9 rfl ok_X9_isName ml_X4_64 pn_X9_isName (ru_Rm (by decide)) (Nat.le_of_ble_eq_true rfl) d_X4_takeAsk_74 ?_
    exact (hc_isName c0)
theorem b_X4_takeAsk_77 {X : cX} {d : Nat} {μ : mM} {K : Option Value → mM → Prop} {r0 : Nat} {r1 : Nat} {r2 : Nat} {l3 : Int32} {v0 : Int32} (h : v0 = 0 → G X (Rm (d + 7)) mX4_takeAsk 97 [(0, .ref r0), (1, .ref r1), (2, .ref r2)] [] μ 0 0 K) (h_2 : ¬ v0 = 0 → G X (Rm (d + 7)) mX4_takeAsk 80 [(0, .ref r0), (1, .ref r1), (2, .ref r2), (3, .int l3)] [] μ 0 0 K) : G X (Rm (d + 7)) mX4_takeAsk 77 [(0, .ref r0), (1, .ref r1), (2, .ref r2), (3, .int l3)] [.int v0] μ 0 0 K := by
  refine G_if_eq (tgt := 97) d_X4_takeAsk_77 rfl (fun c0 => ?_) (fun c0 => ?_)
  ·
    refine G_sub (L' := [(0, .ref r0), (1, .ref r1), (2, .ref r2)]) [0, 1, 2] rfl ?_
    exact (h c0)
  ·
    exact (h_2 c0)
theorem b_X4_takeAsk_80 {X : cX} {d : Nat} {μ : mM} {K : Option Value → mM → Prop} {r0 : Nat} {r1 : Nat} {r2 : Nat} {l3 : Int32} (hw4_r0 : WF4 μ r0) (hc_tellLetter : Ct X (Rm (d + 6)) mX4_tellLetter [.ref r0, .ref r1, .ref r2] μ (fun r μ2 => G X (Rm (d + 7)) mX4_takeAsk 86 [(0, .ref r0), (1, .ref r1), (2, .ref r2), (3, .int l3)] (r.toList ++ []) μ2 0 0 K)) : G X (Rm (d + 7)) mX4_takeAsk 80 [(0, .ref r0), (1, .ref r1), (2, .ref r2), (3, .int l3)] [] μ 0 0 K := by
  refine G_aload_n d_X4_takeAsk_80 rfl 0 rfl ?_
  refine G_aload_n d_X4_takeAsk_81 rfl 1 rfl ?_
  refine G_aload_n d_X4_takeAsk_82 rfl 2 rfl ?_
  refine G_callV (M' := mX4_tellLetter) (R' := (Rm (d + 6))) (S := []) [.ref r1, .ref r2] 4 (w4_kd hw4_r0) cok4 rfl ok_X4_tellLetter ml_X4_136 pn_X4_tellLetter (ru_Rm (by decide)) (Nat.le_of_ble_eq_true rfl) d_X4_takeAsk_83 ?_
  exact hc_tellLetter
theorem b_X4_takeAsk_86 {X : cX} {d : Nat} {μ : mM} {K : Option Value → mM → Prop} {r0 : Nat} {r1 : Nat} {r2 : Nat} {i3 : Nat} {v0 : Int32} (h : ¬ v0 = 0 → G X (Rm (d + 7)) mX4_takeAsk 57 [(0, .ref r0), (1, .ref r1), (2, .ref r2), (3, .int (nI (i3 + 1)))] [] μ 0 0 K) (hK : v0 = 0 → K (some (.int 0)) μ) : G X (Rm (d + 7)) mX4_takeAsk 86 [(0, .ref r0), (1, .ref r1), (2, .ref r2), (3, .int (nI i3))] [.int v0] μ 0 0 K := by
  refine G_if_ne (tgt := 91) d_X4_takeAsk_86 rfl (fun c0 => ?_) (fun c0 => ?_)
  ·
    refine G_iinc (L' := [(3, .int (nI (i3 + 1))), (0, .ref r0), (1, .ref r1), (2, .ref r2)]) d_X4_takeAsk_91 3 rfl (inc1 i3) (by decide) rfl ?_
    refine G_goto (tgt := 57) d_X4_takeAsk_94 rfl ?_
    refine G_sub (L' := [(0, .ref r0), (1, .ref r1), (2, .ref r2), (3, .int (nI (i3 + 1)))]) [1, 2, 3, 0] rfl ?_
    exact (h c0)
  ·
    refine G_iconst d_X4_takeAsk_89 ic_0 ?_
    exact G_zret rfl rfl rfl rfl d_X4_takeAsk_90 (hK c0)
theorem b_X4_takeAsk_97 {X : cX} {d : Nat} {μ : mM} {K : Option Value → mM → Prop} {r0 : Nat} {r1 : Nat} {r2 : Nat} (hw4_r0 : WF4 μ r0) (hc_takeSign : Ct X (Rm (d + 6)) mX4_takeSign [.ref r0, .ref r1, .int 58] μ (fun r μ2 => G X (Rm (d + 7)) mX4_takeAsk 104 [(0, .ref r0), (1, .ref r1), (2, .ref r2)] (r.toList ++ []) μ2 0 0 K)) : G X (Rm (d + 7)) mX4_takeAsk 97 [(0, .ref r0), (1, .ref r1), (2, .ref r2)] [] μ 0 0 K := by
  refine G_aload_n d_X4_takeAsk_97 rfl 0 rfl ?_
  refine G_aload_n d_X4_takeAsk_98 rfl 1 rfl ?_
  refine G_bipush d_X4_takeAsk_99 bp_58 ?_
  refine G_callV (M' := mX4_takeSign) (R' := (Rm (d + 6))) (S := []) [.ref r1, .int 58] 4 (w4_kd hw4_r0) cok4 rfl ok_X4_takeSign ml_X4_103 pn_X4_takeSign (ru_Rm (by decide)) (Nat.le_of_ble_eq_true rfl) d_X4_takeAsk_101 ?_
  exact hc_takeSign
theorem b_X4_takeAsk_104 {X : cX} {d : Nat} {μ : mM} {K : Option Value → mM → Prop} {r0 : Nat} {r1 : Nat} {r2 : Nat} {v0 : Int32} (h : ¬ v0 = 0 → G X (Rm (d + 7)) mX4_takeAsk 111 [(0, .ref r0), (1, .ref r1), (2, .ref r2), (3, .int (nI 0))] [] μ 0 0 K) (hK : v0 = 0 → K (some (.int 0)) μ) : G X (Rm (d + 7)) mX4_takeAsk 104 [(0, .ref r0), (1, .ref r1), (2, .ref r2)] [.int v0] μ 0 0 K := by
  refine G_if_ne (tgt := 109) d_X4_takeAsk_104 rfl (fun c0 => ?_) (fun c0 => ?_)
  ·
    refine G_iconst d_X4_takeAsk_109 ic_0 ?_
    refine G_istore_n (L' := [(3, .int (nI 0)), (0, .ref r0), (1, .ref r1), (2, .ref r2)]) d_X4_takeAsk_110 rfl (by decide) rfl ?_
    refine G_sub (L' := [(0, .ref r0), (1, .ref r1), (2, .ref r2), (3, .int (nI 0))]) [1, 2, 3, 0] rfl ?_
    exact (h c0)
  ·
    refine G_iconst d_X4_takeAsk_107 ic_0 ?_
    exact G_zret rfl rfl rfl rfl d_X4_takeAsk_108 (hK c0)
theorem b_X4_takeAsk_111 {X : cX} {d : Nat} {μ : mM} {K : Option Value → mM → Prop} {r0 : Nat} {r1 : Nat} {r2 : Nat} {l3 : Int32} (h : (12 : Int32) < l3 → G X (Rm (d + 7)) mX4_takeAsk 147 [(0, .ref r0), (1, .ref r1), (2, .ref r2)] [] μ 0 0 K) (h_2 : ¬ (12 : Int32) < l3 → l3 = 0 → G X (Rm (d + 7)) mX4_takeAsk 130 [(0, .ref r0), (1, .ref r1), (2, .ref r2), (3, .int l3)] [] μ 0 0 K) (hw9_r1 : WF9 μ r1) (hc_isSign : ¬ (12 : Int32) < l3 → ¬ l3 = 0 → Ct X (Rm (d + 6)) mX9_isSign [.ref r1, .int 59] μ (fun r μ2 => G X (Rm (d + 7)) mX4_takeAsk 127 [(0, .ref r0), (1, .ref r1), (2, .ref r2), (3, .int l3)] (r.toList ++ []) μ2 0 0 K)) : G X (Rm (d + 7)) mX4_takeAsk 111 [(0, .ref r0), (1, .ref r1), (2, .ref r2), (3, .int l3)] [] μ 0 0 K := by
  refine G_iload_n d_X4_takeAsk_111 rfl 3 rfl ?_
  refine G_bipush d_X4_takeAsk_112 bp_12 ?_
  refine G_icmp_gt (tgt := 147) d_X4_takeAsk_114 rfl (fun c0 => ?_) (fun c0 => ?_)
  ·
    refine G_sub (L' := [(0, .ref r0), (1, .ref r1), (2, .ref r2)]) [0, 1, 2] rfl ?_
    exact (h c0)
  ·
    refine G_iload_n d_X4_takeAsk_117 rfl 3 rfl ?_
    refine G_if_eq (tgt := 130) d_X4_takeAsk_118 rfl (fun c1 => ?_) (fun c1 => ?_)
    ·
      exact (h_2 c0 c1)
    ·
      refine G_aload_n d_X4_takeAsk_121 rfl 1 rfl ?_
      refine G_bipush d_X4_takeAsk_122 bp_59 ?_
      refine G_callV (M' := mX9_isSign) (R' := (Rm (d + 6))) (S := []) [.int 59] 9 (w9_kd hw9_r1) cok9 rfl ok_X9_isSign ml_X4_140 pn_X9_isSign (ru_Rm (by decide)) (Nat.le_of_ble_eq_true rfl) d_X4_takeAsk_124 ?_
      exact (hc_isSign c0 c1)
theorem b_X4_takeAsk_127 {X : cX} {d : Nat} {μ : mM} {K : Option Value → mM → Prop} {r0 : Nat} {r1 : Nat} {r2 : Nat} {l3 : Int32} {v0 : Int32} (h : ¬ v0 = 0 → G X (Rm (d + 7)) mX4_takeAsk 147 [(0, .ref r0), (1, .ref r1), (2, .ref r2)] [] μ 0 0 K) (h_2 : v0 = 0 → G X (Rm (d + 7)) mX4_takeAsk 130 [(0, .ref r0), (1, .ref r1), (2, .ref r2), (3, .int l3)] [] μ 0 0 K) : G X (Rm (d + 7)) mX4_takeAsk 127 [(0, .ref r0), (1, .ref r1), (2, .ref r2), (3, .int l3)] [.int v0] μ 0 0 K := by
  refine G_if_ne (tgt := 147) d_X4_takeAsk_127 rfl (fun c0 => ?_) (fun c0 => ?_)
  ·
    refine G_sub (L' := [(0, .ref r0), (1, .ref r1), (2, .ref r2)]) [0, 1, 2] rfl ?_
    exact (h c0)
  ·
    exact (h_2 c0)
theorem b_X4_takeAsk_130 {X : cX} {d : Nat} {μ : mM} {K : Option Value → mM → Prop} {r0 : Nat} {r1 : Nat} {r2 : Nat} {l3 : Int32} (hw4_r0 : WF4 μ r0) (hc_takeItem : Ct X (Rm (d + 6)) mX4_takeItem [.ref r0, .ref r1, .ref r2] μ (fun r μ2 => G X (Rm (d + 7)) mX4_takeAsk 136 [(0, .ref r0), (1, .ref r1), (2, .ref r2), (3, .int l3)] (r.toList ++ []) μ2 0 0 K)) : G X (Rm (d + 7)) mX4_takeAsk 130 [(0, .ref r0), (1, .ref r1), (2, .ref r2), (3, .int l3)] [] μ 0 0 K := by
  refine G_aload_n d_X4_takeAsk_130 rfl 0 rfl ?_
  refine G_aload_n d_X4_takeAsk_131 rfl 1 rfl ?_
  refine G_aload_n d_X4_takeAsk_132 rfl 2 rfl ?_
  refine G_callV (M' := mX4_takeItem) (R' := (Rm (d + 6))) (S := []) [.ref r1, .ref r2] 4 (w4_kd hw4_r0) cok4 rfl ok_X4_takeItem ml_X4_144 pn_X4_takeItem (ru_Rm (by decide)) (Nat.le_of_ble_eq_true rfl) d_X4_takeAsk_133 ?_
  exact hc_takeItem
theorem b_X4_takeAsk_136 {X : cX} {d : Nat} {μ : mM} {K : Option Value → mM → Prop} {r0 : Nat} {r1 : Nat} {r2 : Nat} {i3 : Nat} {v0 : Int32} (h : ¬ v0 = 0 → G X (Rm (d + 7)) mX4_takeAsk 111 [(0, .ref r0), (1, .ref r1), (2, .ref r2), (3, .int (nI (i3 + 1)))] [] μ 0 0 K) (hK : v0 = 0 → K (some (.int 0)) μ) : G X (Rm (d + 7)) mX4_takeAsk 136 [(0, .ref r0), (1, .ref r1), (2, .ref r2), (3, .int (nI i3))] [.int v0] μ 0 0 K := by
  refine G_if_ne (tgt := 141) d_X4_takeAsk_136 rfl (fun c0 => ?_) (fun c0 => ?_)
  ·
    refine G_iinc (L' := [(3, .int (nI (i3 + 1))), (0, .ref r0), (1, .ref r1), (2, .ref r2)]) d_X4_takeAsk_141 3 rfl (inc1 i3) (by decide) rfl ?_
    refine G_goto (tgt := 111) d_X4_takeAsk_144 rfl ?_
    refine G_sub (L' := [(0, .ref r0), (1, .ref r1), (2, .ref r2), (3, .int (nI (i3 + 1)))]) [1, 2, 3, 0] rfl ?_
    exact (h c0)
  ·
    refine G_iconst d_X4_takeAsk_139 ic_0 ?_
    exact G_zret rfl rfl rfl rfl d_X4_takeAsk_140 (hK c0)
theorem b_X4_takeAsk_147 {X : cX} {d : Nat} {μ : mM} {K : Option Value → mM → Prop} {r0 : Nat} {r1 : Nat} {r2 : Nat} (hw3_r2 : WF3 μ r2) (hw4_r0 : WF4 μ r0) (hc_refuse : ¬ (iv μ r2 7) = (1 : Int32) → Ct X (Rm (d + 6)) mX4_refuse [.ref r0, .ref r1, .int 4] μ (fun r μ2 => G X (Rm (d + 7)) mX4_takeAsk 171 [] (r.toList ++ []) μ2 0 0 K)) (hc_takeSign : (iv μ r2 7) = (1 : Int32) → Ct X (Rm (d + 6)) mX4_takeSign [.ref r0, .ref r1, .int 59] μ (fun r μ2 => G X (Rm (d + 7)) mX4_takeAsk 162 [] (r.toList ++ []) μ2 0 0 K)) : G X (Rm (d + 7)) mX4_takeAsk 147 [(0, .ref r0), (1, .ref r1), (2, .ref r2)] [] μ 0 0 K := by
  refine G_aload_n d_X4_takeAsk_147 rfl 2 rfl ?_
  refine G_getI 3 7 (w3_kd hw3_r2) cok3 (by decide) rfl fl_X4_147 d_X4_takeAsk_148 ?_
  refine G_iconst d_X4_takeAsk_151 ic_1 ?_
  refine G_icmp_ne (tgt := 165) d_X4_takeAsk_152 rfl (fun c0 => ?_) (fun c0 => ?_)
  ·
    refine G_aload_n d_X4_takeAsk_165 rfl 0 rfl ?_
    refine G_aload_n d_X4_takeAsk_166 rfl 1 rfl ?_
    refine G_iconst d_X4_takeAsk_167 ic_4 ?_
    refine G_sub (L' := []) [] rfl ?_
    refine G_callV (M' := mX4_refuse) (R' := (Rm (d + 6))) (S := []) [.ref r1, .int 4] 4 (w4_kd hw4_r0) cok4 rfl ok_X4_refuse ml_X4_55 pn_X4_refuse (ru_Rm (by decide)) (Nat.le_of_ble_eq_true rfl) d_X4_takeAsk_168 ?_
    exact (hc_refuse c0)
  ·
    refine G_aload_n d_X4_takeAsk_155 rfl 0 rfl ?_
    refine G_aload_n d_X4_takeAsk_156 rfl 1 rfl ?_
    refine G_bipush d_X4_takeAsk_157 bp_59 ?_
    refine G_sub (L' := []) [] rfl ?_
    refine G_callV (M' := mX4_takeSign) (R' := (Rm (d + 6))) (S := []) [.ref r1, .int 59] 4 (w4_kd hw4_r0) cok4 rfl ok_X4_takeSign ml_X4_103 pn_X4_takeSign (ru_Rm (by decide)) (Nat.le_of_ble_eq_true rfl) d_X4_takeAsk_159 ?_
    exact (hc_takeSign c0)
theorem b_X4_takeAsk_162 {X : cX} {d : Nat} {μ : mM} {K : Option Value → mM → Prop} {v0 : Int32} (h : G X (Rm (d + 7)) mX4_takeAsk 171 [] [.int v0] μ 0 0 K) : G X (Rm (d + 7)) mX4_takeAsk 162 [] [.int v0] μ 0 0 K := by
  refine G_goto (tgt := 171) d_X4_takeAsk_162 rfl ?_
  exact h
theorem b_X4_takeAsk_171 {X : cX} {d : Nat} {μ : mM} {K : Option Value → mM → Prop} {v0 : Int32} (hK : K (some (.int v0)) μ) (hz : v0 = 0 ∨ v0 = 1) : G X (Rm (d + 7)) mX4_takeAsk 171 [] [.int v0] μ 0 0 K := by
  exact G_zret rfl (nar_b hz) rfl rfl d_X4_takeAsk_171 hK
theorem d_X4_takeLine_0 : decode cX4_takeLine 0 = .ok (.aload_n 1, 1) := by decide +kernel
theorem d_X4_takeLine_1 : decode cX4_takeLine 1 = .ok (.ldc 62, 2) := by decide +kernel
theorem d_X4_takeLine_3 : decode cX4_takeLine 3 = .ok (.invokevirtual 64, 3) := by decide +kernel
theorem d_X4_takeLine_6 : decode cX4_takeLine 6 = .ok (.ifCond .eq 10, 3) := by decide +kernel
theorem d_X4_takeLine_9 : decode cX4_takeLine 9 = .ok (.aload_n 0, 1) := by decide +kernel
theorem d_X4_takeLine_10 : decode cX4_takeLine 10 = .ok (.aload_n 1, 1) := by decide +kernel
theorem d_X4_takeLine_11 : decode cX4_takeLine 11 = .ok (.iconst 0, 1) := by decide +kernel
theorem d_X4_takeLine_12 : decode cX4_takeLine 12 = .ok (.invokevirtual 68, 3) := by decide +kernel
theorem d_X4_takeLine_15 : decode cX4_takeLine 15 = .ok (.ireturn, 1) := by decide +kernel
theorem d_X4_takeLine_16 : decode cX4_takeLine 16 = .ok (.aload_n 1, 1) := by decide +kernel
theorem d_X4_takeLine_17 : decode cX4_takeLine 17 = .ok (.ldc 72, 2) := by decide +kernel
theorem d_X4_takeLine_19 : decode cX4_takeLine 19 = .ok (.invokevirtual 64, 3) := by decide +kernel
theorem d_X4_takeLine_22 : decode cX4_takeLine 22 = .ok (.ifCond .eq 10, 3) := by decide +kernel
theorem d_X4_takeLine_25 : decode cX4_takeLine 25 = .ok (.aload_n 0, 1) := by decide +kernel
theorem d_X4_takeLine_26 : decode cX4_takeLine 26 = .ok (.aload_n 1, 1) := by decide +kernel
theorem d_X4_takeLine_27 : decode cX4_takeLine 27 = .ok (.iconst 1, 1) := by decide +kernel
theorem d_X4_takeLine_28 : decode cX4_takeLine 28 = .ok (.invokevirtual 68, 3) := by decide +kernel
theorem d_X4_takeLine_31 : decode cX4_takeLine 31 = .ok (.ireturn, 1) := by decide +kernel
theorem d_X4_takeLine_32 : decode cX4_takeLine 32 = .ok (.aload_n 1, 1) := by decide +kernel
theorem d_X4_takeLine_33 : decode cX4_takeLine 33 = .ok (.ldc 74, 2) := by decide +kernel
theorem d_X4_takeLine_35 : decode cX4_takeLine 35 = .ok (.invokevirtual 64, 3) := by decide +kernel
theorem d_X4_takeLine_38 : decode cX4_takeLine 38 = .ok (.ifCond .eq 9, 3) := by decide +kernel
theorem d_X4_takeLine_41 : decode cX4_takeLine 41 = .ok (.aload_n 0, 1) := by decide +kernel
theorem d_X4_takeLine_42 : decode cX4_takeLine 42 = .ok (.aload_n 1, 1) := by decide +kernel
theorem d_X4_takeLine_43 : decode cX4_takeLine 43 = .ok (.invokevirtual 76, 3) := by decide +kernel
theorem d_X4_takeLine_46 : decode cX4_takeLine 46 = .ok (.ireturn, 1) := by decide +kernel
theorem d_X4_takeLine_47 : decode cX4_takeLine 47 = .ok (.aload_n 1, 1) := by decide +kernel
theorem d_X4_takeLine_48 : decode cX4_takeLine 48 = .ok (.ldc 79, 2) := by decide +kernel
theorem d_X4_takeLine_50 : decode cX4_takeLine 50 = .ok (.invokevirtual 64, 3) := by decide +kernel
theorem d_X4_takeLine_53 : decode cX4_takeLine 53 = .ok (.ifCond .eq 9, 3) := by decide +kernel
theorem d_X4_takeLine_56 : decode cX4_takeLine 56 = .ok (.aload_n 0, 1) := by decide +kernel
theorem d_X4_takeLine_57 : decode cX4_takeLine 57 = .ok (.aload_n 1, 1) := by decide +kernel
theorem d_X4_takeLine_58 : decode cX4_takeLine 58 = .ok (.invokevirtual 81, 3) := by decide +kernel
theorem d_X4_takeLine_61 : decode cX4_takeLine 61 = .ok (.ireturn, 1) := by decide +kernel
theorem d_X4_takeLine_62 : decode cX4_takeLine 62 = .ok (.aload_n 1, 1) := by decide +kernel
theorem d_X4_takeLine_63 : decode cX4_takeLine 63 = .ok (.ldc 84, 2) := by decide +kernel
theorem d_X4_takeLine_65 : decode cX4_takeLine 65 = .ok (.invokevirtual 64, 3) := by decide +kernel
theorem d_X4_takeLine_68 : decode cX4_takeLine 68 = .ok (.ifCond .eq 9, 3) := by decide +kernel
theorem d_X4_takeLine_71 : decode cX4_takeLine 71 = .ok (.aload_n 0, 1) := by decide +kernel
theorem d_X4_takeLine_72 : decode cX4_takeLine 72 = .ok (.aload_n 1, 1) := by decide +kernel
theorem d_X4_takeLine_73 : decode cX4_takeLine 73 = .ok (.invokevirtual 86, 3) := by decide +kernel
theorem d_X4_takeLine_76 : decode cX4_takeLine 76 = .ok (.ireturn, 1) := by decide +kernel
theorem d_X4_takeLine_77 : decode cX4_takeLine 77 = .ok (.aload_n 0, 1) := by decide +kernel
theorem d_X4_takeLine_78 : decode cX4_takeLine 78 = .ok (.aload_n 1, 1) := by decide +kernel
theorem d_X4_takeLine_79 : decode cX4_takeLine 79 = .ok (.invokevirtual 89, 3) := by decide +kernel
theorem d_X4_takeLine_82 : decode cX4_takeLine 82 = .ok (.ireturn, 1) := by decide +kernel
theorem b_X4_takeLine_0 {X : cX} {d : Nat} {μ : mM} {K : Option Value → mM → Prop} {r0 : Nat} {r1 : Nat} (hw9_r1 : WF9 μ r1) (hc_isName : Ct X (Rm (d + 7)) mX9_isName [.ref r1, .ref (X.2.2.2.2.1 0)] μ (fun r μ2 => G X (Rm (d + 8)) mX4_takeLine 6 [(0, .ref r0), (1, .ref r1)] (r.toList ++ []) μ2 0 0 K)) : G X (Rm (d + 8)) mX4_takeLine 0 [(0, .ref r0), (1, .ref r1)] [] μ 0 0 K := by
  refine G_aload_n d_X4_takeLine_0 rfl 1 rfl ?_
  refine G_ldcS 0 (by decide) rfl rfl d_X4_takeLine_1 ?_
  refine G_callV (M' := mX9_isName) (R' := (Rm (d + 7))) (S := []) [.ref (X.2.2.2.2.1 0)] 9 (w9_kd hw9_r1) cok9 rfl ok_X9_isName ml_X4_64 pn_X9_isName (ru_Rm (by decide)) (Nat.le_of_ble_eq_true rfl) d_X4_takeLine_3 ?_
  exact hc_isName
theorem b_X4_takeLine_6 {X : cX} {d : Nat} {μ : mM} {K : Option Value → mM → Prop} {r0 : Nat} {r1 : Nat} {v0 : Int32} (hw9_r1 : WF9 μ r1) (hc_isName : v0 = 0 → Ct X (Rm (d + 7)) mX9_isName [.ref r1, .ref (X.2.2.2.2.1 1)] μ (fun r μ2 => G X (Rm (d + 8)) mX4_takeLine 22 [(0, .ref r0), (1, .ref r1)] (r.toList ++ []) μ2 0 0 K)) (hw4_r0 : WF4 μ r0) (hc_takeNode : ¬ v0 = 0 → Ct X (Rm (d + 7)) mX4_takeNode [.ref r0, .ref r1, .int 0] μ (fun r μ2 => G X (Rm (d + 8)) mX4_takeLine 15 [] (r.toList ++ []) μ2 0 0 K)) : G X (Rm (d + 8)) mX4_takeLine 6 [(0, .ref r0), (1, .ref r1)] [.int v0] μ 0 0 K := by
  refine G_if_eq (tgt := 16) d_X4_takeLine_6 rfl (fun c0 => ?_) (fun c0 => ?_)
  ·
    refine G_aload_n d_X4_takeLine_16 rfl 1 rfl ?_
    refine G_ldcS 1 (by decide) rfl rfl d_X4_takeLine_17 ?_
    refine G_callV (M' := mX9_isName) (R' := (Rm (d + 7))) (S := []) [.ref (X.2.2.2.2.1 1)] 9 (w9_kd hw9_r1) cok9 rfl ok_X9_isName ml_X4_64 pn_X9_isName (ru_Rm (by decide)) (Nat.le_of_ble_eq_true rfl) d_X4_takeLine_19 ?_
    exact (hc_isName c0)
  ·
    refine G_aload_n d_X4_takeLine_9 rfl 0 rfl ?_
    refine G_aload_n d_X4_takeLine_10 rfl 1 rfl ?_
    refine G_iconst d_X4_takeLine_11 ic_0 ?_
    refine G_sub (L' := []) [] rfl ?_
    refine G_callV (M' := mX4_takeNode) (R' := (Rm (d + 7))) (S := []) [.ref r1, .int 0] 4 (w4_kd hw4_r0) cok4 rfl ok_X4_takeNode ml_X4_68 pn_X4_takeNode (ru_Rm (by decide)) (Nat.le_of_ble_eq_true rfl) d_X4_takeLine_12 ?_
    exact (hc_takeNode c0)
theorem b_X4_takeLine_15 {X : cX} {d : Nat} {μ : mM} {K : Option Value → mM → Prop} {v0 : Int32} (hK : K (some (.int v0)) μ) (hz : v0 = 0 ∨ v0 = 1) : G X (Rm (d + 8)) mX4_takeLine 15 [] [.int v0] μ 0 0 K := by
  exact G_zret rfl (nar_b hz) rfl rfl d_X4_takeLine_15 hK
theorem b_X4_takeLine_22 {X : cX} {d : Nat} {μ : mM} {K : Option Value → mM → Prop} {r0 : Nat} {r1 : Nat} {v0 : Int32} (hw9_r1 : WF9 μ r1) (hc_isName : v0 = 0 → Ct X (Rm (d + 7)) mX9_isName [.ref r1, .ref (X.2.2.2.2.1 2)] μ (fun r μ2 => G X (Rm (d + 8)) mX4_takeLine 38 [(0, .ref r0), (1, .ref r1)] (r.toList ++ []) μ2 0 0 K)) (hw4_r0 : WF4 μ r0) (hc_takeNode : ¬ v0 = 0 → Ct X (Rm (d + 7)) mX4_takeNode [.ref r0, .ref r1, .int 1] μ (fun r μ2 => G X (Rm (d + 8)) mX4_takeLine 31 [] (r.toList ++ []) μ2 0 0 K)) : G X (Rm (d + 8)) mX4_takeLine 22 [(0, .ref r0), (1, .ref r1)] [.int v0] μ 0 0 K := by
  refine G_if_eq (tgt := 32) d_X4_takeLine_22 rfl (fun c0 => ?_) (fun c0 => ?_)
  ·
    refine G_aload_n d_X4_takeLine_32 rfl 1 rfl ?_
    refine G_ldcS 2 (by decide) rfl rfl d_X4_takeLine_33 ?_
    refine G_callV (M' := mX9_isName) (R' := (Rm (d + 7))) (S := []) [.ref (X.2.2.2.2.1 2)] 9 (w9_kd hw9_r1) cok9 rfl ok_X9_isName ml_X4_64 pn_X9_isName (ru_Rm (by decide)) (Nat.le_of_ble_eq_true rfl) d_X4_takeLine_35 ?_
    exact (hc_isName c0)
  ·
    refine G_aload_n d_X4_takeLine_25 rfl 0 rfl ?_
    refine G_aload_n d_X4_takeLine_26 rfl 1 rfl ?_
    refine G_iconst d_X4_takeLine_27 ic_1 ?_
    refine G_sub (L' := []) [] rfl ?_
    refine G_callV (M' := mX4_takeNode) (R' := (Rm (d + 7))) (S := []) [.ref r1, .int 1] 4 (w4_kd hw4_r0) cok4 rfl ok_X4_takeNode ml_X4_68 pn_X4_takeNode (ru_Rm (by decide)) (Nat.le_of_ble_eq_true rfl) d_X4_takeLine_28 ?_
    exact (hc_takeNode c0)
theorem b_X4_takeLine_31 {X : cX} {d : Nat} {μ : mM} {K : Option Value → mM → Prop} {v0 : Int32} (hK : K (some (.int v0)) μ) (hz : v0 = 0 ∨ v0 = 1) : G X (Rm (d + 8)) mX4_takeLine 31 [] [.int v0] μ 0 0 K := by
  exact G_zret rfl (nar_b hz) rfl rfl d_X4_takeLine_31 hK
theorem b_X4_takeLine_38 {X : cX} {d : Nat} {μ : mM} {K : Option Value → mM → Prop} {r0 : Nat} {r1 : Nat} {v0 : Int32} (hw9_r1 : WF9 μ r1) (hc_isName : v0 = 0 → Ct X (Rm (d + 7)) mX9_isName [.ref r1, .ref (X.2.2.2.2.1 4)] μ (fun r μ2 => G X (Rm (d + 8)) mX4_takeLine 53 [(0, .ref r0), (1, .ref r1)] (r.toList ++ []) μ2 0 0 K)) (hw4_r0 : WF4 μ r0) (hc_takeAt : ¬ v0 = 0 → Ct X (Rm (d + 7)) mX4_takeAt [.ref r0, .ref r1] μ (fun r μ2 => G X (Rm (d + 8)) mX4_takeLine 46 [] (r.toList ++ []) μ2 0 0 K)) : G X (Rm (d + 8)) mX4_takeLine 38 [(0, .ref r0), (1, .ref r1)] [.int v0] μ 0 0 K := by
  refine G_if_eq (tgt := 47) d_X4_takeLine_38 rfl (fun c0 => ?_) (fun c0 => ?_)
  ·
    refine G_aload_n d_X4_takeLine_47 rfl 1 rfl ?_
    refine G_ldcS 4 (by decide) rfl rfl d_X4_takeLine_48 ?_
    refine G_callV (M' := mX9_isName) (R' := (Rm (d + 7))) (S := []) [.ref (X.2.2.2.2.1 4)] 9 (w9_kd hw9_r1) cok9 rfl ok_X9_isName ml_X4_64 pn_X9_isName (ru_Rm (by decide)) (Nat.le_of_ble_eq_true rfl) d_X4_takeLine_50 ?_
    exact (hc_isName c0)
  ·
    refine G_aload_n d_X4_takeLine_41 rfl 0 rfl ?_
    refine G_aload_n d_X4_takeLine_42 rfl 1 rfl ?_
    refine G_sub (L' := []) [] rfl ?_
    refine G_callV (M' := mX4_takeAt) (R' := (Rm (d + 7))) (S := []) [.ref r1] 4 (w4_kd hw4_r0) cok4 rfl ok_X4_takeAt ml_X4_76 pn_X4_takeAt (ru_Rm (by decide)) (Nat.le_of_ble_eq_true rfl) d_X4_takeLine_43 ?_
    exact (hc_takeAt c0)
theorem b_X4_takeLine_46 {X : cX} {d : Nat} {μ : mM} {K : Option Value → mM → Prop} {v0 : Int32} (hK : K (some (.int v0)) μ) (hz : v0 = 0 ∨ v0 = 1) : G X (Rm (d + 8)) mX4_takeLine 46 [] [.int v0] μ 0 0 K := by
  exact G_zret rfl (nar_b hz) rfl rfl d_X4_takeLine_46 hK
theorem b_X4_takeLine_53 {X : cX} {d : Nat} {μ : mM} {K : Option Value → mM → Prop} {r0 : Nat} {r1 : Nat} {v0 : Int32} (hw9_r1 : WF9 μ r1) (hc_isName : v0 = 0 → Ct X (Rm (d + 7)) mX9_isName [.ref r1, .ref (X.2.2.2.2.1 5)] μ (fun r μ2 => G X (Rm (d + 8)) mX4_takeLine 68 [(0, .ref r0), (1, .ref r1)] (r.toList ++ []) μ2 0 0 K)) (hw4_r0 : WF4 μ r0) (hc_takeNext : ¬ v0 = 0 → Ct X (Rm (d + 7)) mX4_takeNext [.ref r0, .ref r1] μ (fun r μ2 => G X (Rm (d + 8)) mX4_takeLine 61 [] (r.toList ++ []) μ2 0 0 K)) : G X (Rm (d + 8)) mX4_takeLine 53 [(0, .ref r0), (1, .ref r1)] [.int v0] μ 0 0 K := by
  refine G_if_eq (tgt := 62) d_X4_takeLine_53 rfl (fun c0 => ?_) (fun c0 => ?_)
  ·
    refine G_aload_n d_X4_takeLine_62 rfl 1 rfl ?_
    refine G_ldcS 5 (by decide) rfl rfl d_X4_takeLine_63 ?_
    refine G_callV (M' := mX9_isName) (R' := (Rm (d + 7))) (S := []) [.ref (X.2.2.2.2.1 5)] 9 (w9_kd hw9_r1) cok9 rfl ok_X9_isName ml_X4_64 pn_X9_isName (ru_Rm (by decide)) (Nat.le_of_ble_eq_true rfl) d_X4_takeLine_65 ?_
    exact (hc_isName c0)
  ·
    refine G_aload_n d_X4_takeLine_56 rfl 0 rfl ?_
    refine G_aload_n d_X4_takeLine_57 rfl 1 rfl ?_
    refine G_sub (L' := []) [] rfl ?_
    refine G_callV (M' := mX4_takeNext) (R' := (Rm (d + 7))) (S := []) [.ref r1] 4 (w4_kd hw4_r0) cok4 rfl ok_X4_takeNext ml_X4_81 pn_X4_takeNext (ru_Rm (by decide)) (Nat.le_of_ble_eq_true rfl) d_X4_takeLine_58 ?_
    exact (hc_takeNext c0)
theorem b_X4_takeLine_61 {X : cX} {d : Nat} {μ : mM} {K : Option Value → mM → Prop} {v0 : Int32} (hK : K (some (.int v0)) μ) (hz : v0 = 0 ∨ v0 = 1) : G X (Rm (d + 8)) mX4_takeLine 61 [] [.int v0] μ 0 0 K := by
  exact G_zret rfl (nar_b hz) rfl rfl d_X4_takeLine_61 hK
theorem b_X4_takeLine_68 {X : cX} {d : Nat} {μ : mM} {K : Option Value → mM → Prop} {r0 : Nat} {r1 : Nat} {v0 : Int32} (hw4_r0 : WF4 μ r0) (hc_refuseToken : v0 = 0 → Ct X (Rm (d + 7)) mX4_refuseToken [.ref r0, .ref r1] μ (fun r μ2 => G X (Rm (d + 8)) mX4_takeLine 82 [] (r.toList ++ []) μ2 0 0 K)) (hc_takeAsk : ¬ v0 = 0 → Ct X (Rm (d + 7)) mX4_takeAsk [.ref r0, .ref r1] μ (fun r μ2 => G X (Rm (d + 8)) mX4_takeLine 76 [] (r.toList ++ []) μ2 0 0 K)) : G X (Rm (d + 8)) mX4_takeLine 68 [(0, .ref r0), (1, .ref r1)] [.int v0] μ 0 0 K := by
  refine G_if_eq (tgt := 77) d_X4_takeLine_68 rfl (fun c0 => ?_) (fun c0 => ?_)
  ·
    refine G_aload_n d_X4_takeLine_77 rfl 0 rfl ?_
    refine G_aload_n d_X4_takeLine_78 rfl 1 rfl ?_
    refine G_sub (L' := []) [] rfl ?_
    refine G_callV (M' := mX4_refuseToken) (R' := (Rm (d + 7))) (S := []) [.ref r1] 4 (w4_kd hw4_r0) cok4 rfl ok_X4_refuseToken ml_X4_89 pn_X4_refuseToken (ru_Rm (by decide)) (Nat.le_of_ble_eq_true rfl) d_X4_takeLine_79 ?_
    exact (hc_refuseToken c0)
  ·
    refine G_aload_n d_X4_takeLine_71 rfl 0 rfl ?_
    refine G_aload_n d_X4_takeLine_72 rfl 1 rfl ?_
    refine G_sub (L' := []) [] rfl ?_
    refine G_callV (M' := mX4_takeAsk) (R' := (Rm (d + 7))) (S := []) [.ref r1] 4 (w4_kd hw4_r0) cok4 rfl ok_X4_takeAsk ml_X4_86 pn_X4_takeAsk (ru_Rm (by decide)) (Nat.le_of_ble_eq_true rfl) d_X4_takeLine_73 ?_
    exact (hc_takeAsk c0)
theorem b_X4_takeLine_76 {X : cX} {d : Nat} {μ : mM} {K : Option Value → mM → Prop} {v0 : Int32} (hK : K (some (.int v0)) μ) (hz : v0 = 0 ∨ v0 = 1) : G X (Rm (d + 8)) mX4_takeLine 76 [] [.int v0] μ 0 0 K := by
  exact G_zret rfl (nar_b hz) rfl rfl d_X4_takeLine_76 hK
theorem b_X4_takeLine_82 {X : cX} {d : Nat} {μ : mM} {K : Option Value → mM → Prop} {v0 : Int32} (hK : K (some (.int v0)) μ) (hz : v0 = 0 ∨ v0 = 1) : G X (Rm (d + 8)) mX4_takeLine 82 [] [.int v0] μ 0 0 K := by
  exact G_zret rfl (nar_b hz) rfl rfl d_X4_takeLine_82 hK
theorem d_X4_takes_0 : decode cX4_takes 0 = .ok (.aload_n 0, 1) := by decide +kernel
theorem d_X4_takes_1 : decode cX4_takes 1 = .ok (.getfield 12, 3) := by decide +kernel
theorem d_X4_takes_4 : decode cX4_takes 4 = .ok (.invokevirtual 18, 3) := by decide +kernel
theorem d_X4_takes_7 : decode cX4_takes 7 = .ok (.aload_n 0, 1) := by decide +kernel
theorem d_X4_takes_8 : decode cX4_takes 8 = .ok (.iconst (-1), 1) := by decide +kernel
theorem d_X4_takes_9 : decode cX4_takes 9 = .ok (.putfield 21, 3) := by decide +kernel
theorem d_X4_takes_12 : decode cX4_takes 12 = .ok (.aload_n 0, 1) := by decide +kernel
theorem d_X4_takes_13 : decode cX4_takes 13 = .ok (.iconst 0, 1) := by decide +kernel
theorem d_X4_takes_14 : decode cX4_takes 14 = .ok (.putfield 25, 3) := by decide +kernel
theorem d_X4_takes_17 : decode cX4_takes 17 = .ok (.aload_n 0, 1) := by decide +kernel
theorem d_X4_takes_18 : decode cX4_takes 18 = .ok (.iconst 0, 1) := by decide +kernel
theorem d_X4_takes_19 : decode cX4_takes 19 = .ok (.putfield 28, 3) := by decide +kernel
theorem d_X4_takes_22 : decode cX4_takes 22 = .ok (.aload_n 1, 1) := by decide +kernel
theorem d_X4_takes_23 : decode cX4_takes 23 = .ok (.invokevirtual 31, 3) := by decide +kernel
theorem d_X4_takes_26 : decode cX4_takes 26 = .ok (.aload_n 0, 1) := by decide +kernel
theorem d_X4_takes_27 : decode cX4_takes 27 = .ok (.iconst 0, 1) := by decide +kernel
theorem d_X4_takes_28 : decode cX4_takes 28 = .ok (.putfield 36, 3) := by decide +kernel
theorem d_X4_takes_31 : decode cX4_takes 31 = .ok (.aload_n 0, 1) := by decide +kernel
theorem d_X4_takes_32 : decode cX4_takes 32 = .ok (.getfield 36, 3) := by decide +kernel
theorem d_X4_takes_35 : decode cX4_takes 35 = .ok (.sipush 320, 3) := by decide +kernel
theorem d_X4_takes_38 : decode cX4_takes 38 = .ok (.if_icmp .ge 33, 3) := by decide +kernel
theorem d_X4_takes_41 : decode cX4_takes 41 = .ok (.aload_n 1, 1) := by decide +kernel
theorem d_X4_takes_42 : decode cX4_takes 42 = .ok (.getfield 39, 3) := by decide +kernel
theorem d_X4_takes_45 : decode cX4_takes 45 = .ok (.ifCond .eq 26, 3) := by decide +kernel
theorem d_X4_takes_48 : decode cX4_takes 48 = .ok (.aload_n 0, 1) := by decide +kernel
theorem d_X4_takes_49 : decode cX4_takes 49 = .ok (.aload_n 1, 1) := by decide +kernel
theorem d_X4_takes_50 : decode cX4_takes 50 = .ok (.invokevirtual 42, 3) := by decide +kernel
theorem d_X4_takes_53 : decode cX4_takes 53 = .ok (.ifCond .ne 5, 3) := by decide +kernel
theorem d_X4_takes_56 : decode cX4_takes 56 = .ok (.iconst 0, 1) := by decide +kernel
theorem d_X4_takes_57 : decode cX4_takes 57 = .ok (.ireturn, 1) := by decide +kernel
theorem d_X4_takes_58 : decode cX4_takes 58 = .ok (.aload_n 0, 1) := by decide +kernel
theorem d_X4_takes_59 : decode cX4_takes 59 = .ok (.dup, 1) := by decide +kernel
theorem d_X4_takes_60 : decode cX4_takes 60 = .ok (.getfield 36, 3) := by decide +kernel
theorem d_X4_takes_63 : decode cX4_takes 63 = .ok (.iconst 1, 1) := by decide +kernel
theorem d_X4_takes_64 : decode cX4_takes 64 = .ok (.iadd, 1) := by decide +kernel
theorem d_X4_takes_65 : decode cX4_takes 65 = .ok (.putfield 36, 3) := by decide +kernel
theorem d_X4_takes_68 : decode cX4_takes 68 = .ok (.goto (-37), 3) := by decide +kernel
theorem d_X4_takes_71 : decode cX4_takes 71 = .ok (.aload_n 0, 1) := by decide +kernel
theorem d_X4_takes_72 : decode cX4_takes 72 = .ok (.getfield 21, 3) := by decide +kernel
theorem d_X4_takes_75 : decode cX4_takes 75 = .ok (.aload_n 0, 1) := by decide +kernel
theorem d_X4_takes_76 : decode cX4_takes 76 = .ok (.getfield 12, 3) := by decide +kernel
theorem d_X4_takes_79 : decode cX4_takes 79 = .ok (.getfield 46, 3) := by decide +kernel
theorem d_X4_takes_82 : decode cX4_takes 82 = .ok (.getfield 50, 3) := by decide +kernel
theorem d_X4_takes_85 : decode cX4_takes 85 = .ok (.if_icmp .lt 13, 3) := by decide +kernel
theorem d_X4_takes_88 : decode cX4_takes 88 = .ok (.aload_n 0, 1) := by decide +kernel
theorem d_X4_takes_89 : decode cX4_takes 89 = .ok (.aload_n 1, 1) := by decide +kernel
theorem d_X4_takes_90 : decode cX4_takes 90 = .ok (.bipush 6, 2) := by decide +kernel
theorem d_X4_takes_92 : decode cX4_takes 92 = .ok (.invokevirtual 55, 3) := by decide +kernel
theorem d_X4_takes_95 : decode cX4_takes 95 = .ok (.ifCond .eq 7, 3) := by decide +kernel
theorem d_X4_takes_98 : decode cX4_takes 98 = .ok (.iconst 1, 1) := by decide +kernel
theorem d_X4_takes_99 : decode cX4_takes 99 = .ok (.goto 4, 3) := by decide +kernel
theorem d_X4_takes_102 : decode cX4_takes 102 = .ok (.iconst 0, 1) := by decide +kernel
theorem d_X4_takes_103 : decode cX4_takes 103 = .ok (.ireturn, 1) := by decide +kernel
theorem b_X4_takes_0 {X : cX} {d : Nat} {μ : mM} {K : Option Value → mM → Prop} {r0 : Nat} {r1 : Nat} {p0 : Nat} (hw4_r0 : WF4 μ r0) (hr_p0 : rv μ r0 0 = some p0) (hw10_p0 : WF10 μ p0) (hc_clear : Ct X (Rm (d + 8)) mX10_clear [.ref p0] μ (fun r μ2 => G X (Rm (d + 9)) mX4_takes 7 [(0, .ref r0), (1, .ref r1)] (r.toList ++ []) μ2 0 0 K)) : G X (Rm (d + 9)) mX4_takes 0 [(0, .ref r0), (1, .ref r1)] [] μ 0 0 K := by
  refine G_aload_n d_X4_takes_0 rfl 0 rfl ?_
  refine G_getR (r := p0) 4 0 (w4_kd hw4_r0) hr_p0 cok4 (by decide) rfl fl_X4_12 d_X4_takes_1 ?_
  refine G_callV (M' := mX10_clear) (R' := (Rm (d + 8))) (S := []) [] 10 (w10_kd hw10_p0) cok10 rfl ok_X10_clear ml_X4_18 pn_X10_clear (ru_Rm (by decide)) (Nat.le_of_ble_eq_true rfl) d_X4_takes_4 ?_
  exact hc_clear
theorem b_X4_takes_7 {X : cX} {d : Nat} {μ : mM} {K : Option Value → mM → Prop} {r0 : Nat} {r1 : Nat} (hw4_r0 : WF4 μ r0) (hw9_r1 : WF9 μ r1) (hc_rewind : Ct X (Rm (d + 8)) mX9_rewind [.ref r1] (wi (wi (wi μ r0 1 (-1)) r0 2 0) r0 3 0) (fun r μ2 => G X (Rm (d + 9)) mX4_takes 26 [(0, .ref r0), (1, .ref r1)] (r.toList ++ []) μ2 0 0 K)) : G X (Rm (d + 9)) mX4_takes 7 [(0, .ref r0), (1, .ref r1)] [] μ 0 0 K := by
  refine G_aload_n d_X4_takes_7 rfl 0 rfl ?_
  refine G_iconst d_X4_takes_8 ic_m1 ?_
  refine G_putI 4 1 (w4_kd hw4_r0) rfl rfl cok4 (by decide) rfl (Or.inl rfl) fl_X4_21 d_X4_takes_9 ?_
  refine G_aload_n d_X4_takes_12 rfl 0 rfl ?_
  refine G_iconst d_X4_takes_13 ic_0 ?_
  refine G_putI 4 2 (w4_kd hw4_r0) rfl rfl cok4 (by decide) rfl (Or.inl rfl) fl_X4_25 d_X4_takes_14 ?_
  refine G_aload_n d_X4_takes_17 rfl 0 rfl ?_
  refine G_iconst d_X4_takes_18 ic_0 ?_
  refine G_putI 4 3 (w4_kd hw4_r0) rfl rfl cok4 (by decide) rfl (Or.inl rfl) fl_X4_28 d_X4_takes_19 ?_
  refine G_aload_n d_X4_takes_22 rfl 1 rfl ?_
  refine G_callV (M' := mX9_rewind) (R' := (Rm (d + 8))) (S := []) [] 9 (w9_kd hw9_r1) cok9 rfl ok_X9_rewind ml_X4_31 pn_X9_rewind (ru_Rm (by decide)) (Nat.le_of_ble_eq_true rfl) d_X4_takes_23 ?_
  exact hc_rewind
theorem b_X4_takes_26 {X : cX} {d : Nat} {μ : mM} {K : Option Value → mM → Prop} {r0 : Nat} {r1 : Nat} (hw4_r0 : WF4 μ r0) (h : G X (Rm (d + 9)) mX4_takes 31 [(0, .ref r0), (1, .ref r1)] [] (wi μ r0 4 0) 0 0 K) : G X (Rm (d + 9)) mX4_takes 26 [(0, .ref r0), (1, .ref r1)] [] μ 0 0 K := by
  refine G_aload_n d_X4_takes_26 rfl 0 rfl ?_
  refine G_iconst d_X4_takes_27 ic_0 ?_
  refine G_putI 4 4 (w4_kd hw4_r0) rfl rfl cok4 (by decide) rfl (Or.inl rfl) fl_X4_36 d_X4_takes_28 ?_
  exact h
theorem b_X4_takes_31 {X : cX} {d : Nat} {μ : mM} {K : Option Value → mM → Prop} {r0 : Nat} {r1 : Nat} (hw4_r0 : WF4 μ r0) (h : (320 : Int32) ≤ (iv μ r0 4) → G X (Rm (d + 9)) mX4_takes 71 [(0, .ref r0), (1, .ref r1)] [] μ 0 0 K) (hw9_r1 : WF9 μ r1) (h_2 : ¬ (320 : Int32) ≤ (iv μ r0 4) → (iv μ r1 2) = 0 → G X (Rm (d + 9)) mX4_takes 71 [(0, .ref r0), (1, .ref r1)] [] μ 0 0 K) (hc_takeLine : ¬ (320 : Int32) ≤ (iv μ r0 4) → ¬ (iv μ r1 2) = 0 → Ct X (Rm (d + 8)) mX4_takeLine [.ref r0, .ref r1] μ (fun r μ2 => G X (Rm (d + 9)) mX4_takes 53 [(0, .ref r0), (1, .ref r1)] (r.toList ++ []) μ2 0 0 K)) : G X (Rm (d + 9)) mX4_takes 31 [(0, .ref r0), (1, .ref r1)] [] μ 0 0 K := by
  refine G_aload_n d_X4_takes_31 rfl 0 rfl ?_
  refine G_getI 4 4 (w4_kd hw4_r0) cok4 (by decide) rfl fl_X4_36 d_X4_takes_32 ?_
  refine G_sipush d_X4_takes_35 sp_320 ?_
  refine G_icmp_ge (tgt := 71) d_X4_takes_38 rfl (fun c0 => ?_) (fun c0 => ?_)
  ·
    exact (h c0)
  ·
    refine G_aload_n d_X4_takes_41 rfl 1 rfl ?_
    refine G_getI 9 2 (w9_kd hw9_r1) cok9 (by decide) rfl fl_X4_39 d_X4_takes_42 ?_
    refine G_if_eq (tgt := 71) d_X4_takes_45 rfl (fun c1 => ?_) (fun c1 => ?_)
    ·
      exact (h_2 c0 c1)
    ·
      refine G_aload_n d_X4_takes_48 rfl 0 rfl ?_
      refine G_aload_n d_X4_takes_49 rfl 1 rfl ?_
      refine G_callV (M' := mX4_takeLine) (R' := (Rm (d + 8))) (S := []) [.ref r1] 4 (w4_kd hw4_r0) cok4 rfl ok_X4_takeLine ml_X4_42 pn_X4_takeLine (ru_Rm (by decide)) (Nat.le_of_ble_eq_true rfl) d_X4_takes_50 ?_
      exact (hc_takeLine c0 c1)
theorem b_X4_takes_53 {X : cX} {d : Nat} {μ : mM} {K : Option Value → mM → Prop} {r0 : Nat} {r1 : Nat} {v0 : Int32} (hw4_r0 : WF4 μ r0) (h : ¬ v0 = 0 → G X (Rm (d + 9)) mX4_takes 31 [(0, .ref r0), (1, .ref r1)] [] (wi μ r0 4 ((iv μ r0 4) + 1)) 0 0 K) (hK : v0 = 0 → K (some (.int 0)) μ) : G X (Rm (d + 9)) mX4_takes 53 [(0, .ref r0), (1, .ref r1)] [.int v0] μ 0 0 K := by
  refine G_if_ne (tgt := 58) d_X4_takes_53 rfl (fun c0 => ?_) (fun c0 => ?_)
  ·
    refine G_aload_n d_X4_takes_58 rfl 0 rfl ?_
    refine G_dup d_X4_takes_59 rfl ?_
    refine G_getI 4 4 (w4_kd hw4_r0) cok4 (by decide) rfl fl_X4_36 d_X4_takes_60 ?_
    refine G_iconst d_X4_takes_63 ic_1 ?_
    refine G_iadd d_X4_takes_64 ?_
    refine G_putI 4 4 (w4_kd hw4_r0) rfl rfl cok4 (by decide) rfl (Or.inl rfl) fl_X4_36 d_X4_takes_65 ?_
    refine G_goto (tgt := 31) d_X4_takes_68 rfl ?_
    exact (h c0)
  ·
    refine G_iconst d_X4_takes_56 ic_0 ?_
    exact G_zret rfl rfl rfl rfl d_X4_takes_57 (hK c0)
theorem b_X4_takes_71 {X : cX} {d : Nat} {μ : mM} {K : Option Value → mM → Prop} {r0 : Nat} {r1 : Nat} {p0 : Nat} (hw4_r0 : WF4 μ r0) (hr_p0 : rv μ r0 0 = some p0) (hw10_p0 : WF10 μ p0) (hw5_p01 : WF5 μ (p0 + 1)) (hK : (iv μ r0 1) < (iv μ (p0 + 1) 0) → K (some (.int 1)) μ) (hc_refuse : ¬ (iv μ r0 1) < (iv μ (p0 + 1) 0) → Ct X (Rm (d + 8)) mX4_refuse [.ref r0, .ref r1, .int 6] μ (fun r μ2 => G X (Rm (d + 9)) mX4_takes 95 [] (r.toList ++ []) μ2 0 0 K)) : G X (Rm (d + 9)) mX4_takes 71 [(0, .ref r0), (1, .ref r1)] [] μ 0 0 K := by
  refine G_aload_n d_X4_takes_71 rfl 0 rfl ?_
  refine G_getI 4 1 (w4_kd hw4_r0) cok4 (by decide) rfl fl_X4_21 d_X4_takes_72 ?_
  refine G_aload_n d_X4_takes_75 rfl 0 rfl ?_
  refine G_getR (r := p0) 4 0 (w4_kd hw4_r0) hr_p0 cok4 (by decide) rfl fl_X4_12 d_X4_takes_76 ?_
  refine G_getR (r := p0 + 1) 10 0 (w10_kd hw10_p0) (w10_f0 hw10_p0) cok10 (by decide) rfl fl_X4_46 d_X4_takes_79 ?_
  refine G_getI 5 0 (w5_kd hw5_p01) cok5 (by decide) rfl fl_X4_50 d_X4_takes_82 ?_
  refine G_icmp_lt (tgt := 98) d_X4_takes_85 rfl (fun c0 => ?_) (fun c0 => ?_)
  ·
    refine G_iconst d_X4_takes_98 ic_1 ?_
    refine G_goto (tgt := 103) d_X4_takes_99 rfl ?_
    exact G_zret rfl rfl rfl rfl d_X4_takes_103 (hK c0)
  ·
    refine G_aload_n d_X4_takes_88 rfl 0 rfl ?_
    refine G_aload_n d_X4_takes_89 rfl 1 rfl ?_
    refine G_bipush d_X4_takes_90 bp_6 ?_
    refine G_sub (L' := []) [] rfl ?_
    refine G_callV (M' := mX4_refuse) (R' := (Rm (d + 8))) (S := []) [.ref r1, .int 6] 4 (w4_kd hw4_r0) cok4 rfl ok_X4_refuse ml_X4_55 pn_X4_refuse (ru_Rm (by decide)) (Nat.le_of_ble_eq_true rfl) d_X4_takes_92 ?_
    exact (hc_refuse c0)
theorem b_X4_takes_95 {X : cX} {d : Nat} {μ : mM} {K : Option Value → mM → Prop} {v0 : Int32} (hK : v0 = 0 → K (some (.int 0)) μ) (hK_2 : ¬ v0 = 0 → K (some (.int 1)) μ) : G X (Rm (d + 9)) mX4_takes 95 [] [.int v0] μ 0 0 K := by
  refine G_if_eq (tgt := 102) d_X4_takes_95 rfl (fun c0 => ?_) (fun c0 => ?_)
  ·
    refine G_iconst d_X4_takes_102 ic_0 ?_
    exact G_zret rfl rfl rfl rfl d_X4_takes_103 (hK c0)
  ·
    refine G_iconst d_X4_takes_98 ic_1 ?_
    refine G_goto (tgt := 103) d_X4_takes_99 rfl ?_
    exact G_zret rfl rfl rfl rfl d_X4_takes_103 (hK_2 c0)
theorem d_X5_has_0 : decode cX5_has 0 = .ok (.iload_n 1, 1) := by decide +kernel
theorem d_X5_has_1 : decode cX5_has 1 = .ok (.ifCond .lt 15, 3) := by decide +kernel
theorem d_X5_has_4 : decode cX5_has 4 = .ok (.iload_n 1, 1) := by decide +kernel
theorem d_X5_has_5 : decode cX5_has 5 = .ok (.aload_n 0, 1) := by decide +kernel
theorem d_X5_has_6 : decode cX5_has 6 = .ok (.getfield 29, 3) := by decide +kernel
theorem d_X5_has_9 : decode cX5_has 9 = .ok (.if_icmp .ge 7, 3) := by decide +kernel
theorem d_X5_has_12 : decode cX5_has 12 = .ok (.iconst 1, 1) := by decide +kernel
theorem d_X5_has_13 : decode cX5_has 13 = .ok (.goto 4, 3) := by decide +kernel
theorem d_X5_has_16 : decode cX5_has 16 = .ok (.iconst 0, 1) := by decide +kernel
theorem d_X5_has_17 : decode cX5_has 17 = .ok (.ireturn, 1) := by decide +kernel
theorem b_X5_has_0 {X : cX} {d : Nat} {μ : mM} {K : Option Value → mM → Prop} {r0 : Nat} {l1 : Int32} (hK : l1 < 0 → K (some (.int 0)) μ) (hw5_r0 : WF5 μ r0) (hK_2 : ¬ l1 < 0 → (iv μ r0 0) ≤ l1 → K (some (.int 0)) μ) (hK_3 : ¬ l1 < 0 → ¬ (iv μ r0 0) ≤ l1 → K (some (.int 1)) μ) : G X (Rm d) mX5_has 0 [(0, .ref r0), (1, .int l1)] [] μ 0 0 K := by
  refine G_iload_n d_X5_has_0 rfl 1 rfl ?_
  refine G_if_lt (tgt := 16) d_X5_has_1 rfl (fun c0 => ?_) (fun c0 => ?_)
  ·
    refine G_iconst d_X5_has_16 ic_0 ?_
    exact G_zret rfl rfl rfl rfl d_X5_has_17 (hK c0)
  ·
    refine G_iload_n d_X5_has_4 rfl 1 rfl ?_
    refine G_aload_n d_X5_has_5 rfl 0 rfl ?_
    refine G_getI 5 0 (w5_kd hw5_r0) cok5 (by decide) rfl fl_X5_29 d_X5_has_6 ?_
    refine G_icmp_ge (tgt := 16) d_X5_has_9 rfl (fun c1 => ?_) (fun c1 => ?_)
    ·
      refine G_iconst d_X5_has_16 ic_0 ?_
      exact G_zret rfl rfl rfl rfl d_X5_has_17 (hK_2 c0 c1)
    ·
      refine G_iconst d_X5_has_12 ic_1 ?_
      refine G_goto (tgt := 17) d_X5_has_13 rfl ?_
      exact G_zret rfl rfl rfl rfl d_X5_has_17 (hK_3 c0 c1)
def e_X5_has (μ : mM) (r0 : Nat) (l1 : Int32) : Int32 := (if l1 < 0 then 0 else (if (iv μ r0 0) ≤ l1 then 0 else 1))
theorem s_X5_has {X : cX} {d : Nat} {μ : mM} {K : Option Value → mM → Prop} {r0 : Nat} {l1 : Int32} (hw5_r0 : WF5 μ r0) (hK : K (some (.int (e_X5_has μ r0 l1))) μ) : Ct X (Rm d) mX5_has [.ref r0, .int l1] μ K := Ct_of rfl (Nat.le_of_ble_eq_true rfl) (G_sub [0, 1] rfl (b_X5_has_0 (fun c0 => by unfold e_X5_has at hK; rw [if_pos c0] at hK; exact hK) hw5_r0 (fun c0 c1 => by unfold e_X5_has at hK; rw [if_neg c0, if_pos c1] at hK; exact hK) (fun c0 c1 => by unfold e_X5_has at hK; rw [if_neg c0, if_neg c1] at hK; exact hK)))
theorem d_X5_closeGap_0 : decode cX5_closeGap 0 = .ok (.aload_n 0, 1) := by decide +kernel
theorem d_X5_closeGap_1 : decode cX5_closeGap 1 = .ok (.iload_n 1, 1) := by decide +kernel
theorem d_X5_closeGap_2 : decode cX5_closeGap 2 = .ok (.iconst 1, 1) := by decide +kernel
theorem d_X5_closeGap_3 : decode cX5_closeGap 3 = .ok (.iadd, 1) := by decide +kernel
theorem d_X5_closeGap_4 : decode cX5_closeGap 4 = .ok (.aload_n 0, 1) := by decide +kernel
theorem d_X5_closeGap_5 : decode cX5_closeGap 5 = .ok (.iload_n 1, 1) := by decide +kernel
theorem d_X5_closeGap_6 : decode cX5_closeGap 6 = .ok (.iconst 5, 1) := by decide +kernel
theorem d_X5_closeGap_7 : decode cX5_closeGap 7 = .ok (.iload_n 1, 1) := by decide +kernel
theorem d_X5_closeGap_8 : decode cX5_closeGap 8 = .ok (.isub, 1) := by decide +kernel
theorem d_X5_closeGap_9 : decode cX5_closeGap 9 = .ok (.invokestatic 39, 3) := by decide +kernel
theorem d_X5_closeGap_12 : decode cX5_closeGap 12 = .ok (.aload_n 0, 1) := by decide +kernel
theorem d_X5_closeGap_13 : decode cX5_closeGap 13 = .ok (.iconst 5, 1) := by decide +kernel
theorem d_X5_closeGap_14 : decode cX5_closeGap 14 = .ok (.iconst 0, 1) := by decide +kernel
theorem d_X5_closeGap_15 : decode cX5_closeGap 15 = .ok (.iastore, 1) := by decide +kernel
theorem d_X5_closeGap_16 : decode cX5_closeGap 16 = .ok (.return_, 1) := by decide +kernel
theorem b_X5_closeGap_0 {X : cX} {d : Nat} {μ : mM} {K : Option Value → mM → Prop} {r0 : Nat} {i1 : Nat} {n0 : Nat} {j0 : Nat} (hk_r0 : kd μ r0 = (1, n0)) (hi_j0 : (5 : Int32) - (nI i1) = nI j0) (hc : (i1 + 1) + j0 ≤ n0) (hc_2 : i1 + j0 ≤ n0) (hb : 5 < n0) (hK : K none (wi (cpI μ r0 (i1 + 1) r0 i1 j0) r0 5 0)) : G X (Rm (d + 1)) mX5_closeGap 0 [(0, .ref r0), (1, .int (nI i1))] [] μ 0 0 K := by
  refine G_aload_n d_X5_closeGap_0 rfl 0 rfl ?_
  refine G_iload_n d_X5_closeGap_1 rfl 1 rfl ?_
  refine G_iconst d_X5_closeGap_2 ic_1 ?_
  refine G_iadd d_X5_closeGap_3 ?_
  refine G_aload_n d_X5_closeGap_4 rfl 0 rfl ?_
  refine G_iload_n d_X5_closeGap_5 rfl 1 rfl ?_
  refine G_iconst d_X5_closeGap_6 ic_5 ?_
  refine G_iload_n d_X5_closeGap_7 rfl 1 rfl ?_
  refine G_isub d_X5_closeGap_8 ?_
  refine G_copy (sp := (i1 + 1)) (dp := i1) (n := j0) hk_r0 hk_r0 (nadd rfl rfl) rfl hi_j0 hc hc_2 ml_X5_39 rb_Rm (Nat.le_of_ble_eq_true rfl) d_X5_closeGap_9 ?_
  refine G_aload_n d_X5_closeGap_12 rfl 0 rfl ?_
  refine G_iconst d_X5_closeGap_13 ic_5 ?_
  refine G_iconst d_X5_closeGap_14 ic_0 ?_
  refine G_iast 5 hk_r0 rfl hb d_X5_closeGap_15 ?_
  exact G_vret rfl rfl rfl d_X5_closeGap_16 hK
theorem d_X5_drop_0 : decode cX5_drop 0 = .ok (.aload_n 0, 1) := by decide +kernel
theorem d_X5_drop_1 : decode cX5_drop 1 = .ok (.iload_n 1, 1) := by decide +kernel
theorem d_X5_drop_2 : decode cX5_drop 2 = .ok (.invokevirtual 45, 3) := by decide +kernel
theorem d_X5_drop_5 : decode cX5_drop 5 = .ok (.ifCond .ne 4, 3) := by decide +kernel
theorem d_X5_drop_8 : decode cX5_drop 8 = .ok (.return_, 1) := by decide +kernel
theorem d_X5_drop_9 : decode cX5_drop 9 = .ok (.iconst 0, 1) := by decide +kernel
theorem d_X5_drop_10 : decode cX5_drop 10 = .ok (.istore_n 2, 1) := by decide +kernel
theorem d_X5_drop_11 : decode cX5_drop 11 = .ok (.iload_n 2, 1) := by decide +kernel
theorem d_X5_drop_12 : decode cX5_drop 12 = .ok (.iconst 3, 1) := by decide +kernel
theorem d_X5_drop_13 : decode cX5_drop 13 = .ok (.if_icmp .ge 19, 3) := by decide +kernel
theorem d_X5_drop_16 : decode cX5_drop 16 = .ok (.aload_n 0, 1) := by decide +kernel
theorem d_X5_drop_17 : decode cX5_drop 17 = .ok (.getfield 17, 3) := by decide +kernel
theorem d_X5_drop_20 : decode cX5_drop 20 = .ok (.iload_n 2, 1) := by decide +kernel
theorem d_X5_drop_21 : decode cX5_drop 21 = .ok (.aaload, 1) := by decide +kernel
theorem d_X5_drop_22 : decode cX5_drop 22 = .ok (.iload_n 1, 1) := by decide +kernel
theorem d_X5_drop_23 : decode cX5_drop 23 = .ok (.invokestatic 49, 3) := by decide +kernel
theorem d_X5_drop_26 : decode cX5_drop 26 = .ok (.iinc 2 1, 3) := by decide +kernel
theorem d_X5_drop_29 : decode cX5_drop 29 = .ok (.goto (-18), 3) := by decide +kernel
theorem d_X5_drop_32 : decode cX5_drop 32 = .ok (.iconst 0, 1) := by decide +kernel
theorem d_X5_drop_33 : decode cX5_drop 33 = .ok (.istore_n 2, 1) := by decide +kernel
theorem d_X5_drop_34 : decode cX5_drop 34 = .ok (.iload_n 2, 1) := by decide +kernel
theorem d_X5_drop_35 : decode cX5_drop 35 = .ok (.bipush 6, 2) := by decide +kernel
theorem d_X5_drop_37 : decode cX5_drop 37 = .ok (.if_icmp .ge 19, 3) := by decide +kernel
theorem d_X5_drop_40 : decode cX5_drop 40 = .ok (.aload_n 0, 1) := by decide +kernel
theorem d_X5_drop_41 : decode cX5_drop 41 = .ok (.getfield 20, 3) := by decide +kernel
theorem d_X5_drop_44 : decode cX5_drop 44 = .ok (.iload_n 2, 1) := by decide +kernel
theorem d_X5_drop_45 : decode cX5_drop 45 = .ok (.aaload, 1) := by decide +kernel
theorem d_X5_drop_46 : decode cX5_drop 46 = .ok (.iload_n 1, 1) := by decide +kernel
theorem d_X5_drop_47 : decode cX5_drop 47 = .ok (.invokestatic 49, 3) := by decide +kernel
theorem d_X5_drop_50 : decode cX5_drop 50 = .ok (.iinc 2 1, 3) := by decide +kernel
theorem d_X5_drop_53 : decode cX5_drop 53 = .ok (.goto (-19), 3) := by decide +kernel
theorem d_X5_drop_56 : decode cX5_drop 56 = .ok (.iload_n 1, 1) := by decide +kernel
theorem d_X5_drop_57 : decode cX5_drop 57 = .ok (.istore_n 2, 1) := by decide +kernel
theorem d_X5_drop_58 : decode cX5_drop 58 = .ok (.iload_n 2, 1) := by decide +kernel
theorem d_X5_drop_59 : decode cX5_drop 59 = .ok (.iconst 5, 1) := by decide +kernel
theorem d_X5_drop_60 : decode cX5_drop 60 = .ok (.if_icmp .ge 44, 3) := by decide +kernel
theorem d_X5_drop_63 : decode cX5_drop 63 = .ok (.aload_n 0, 1) := by decide +kernel
theorem d_X5_drop_64 : decode cX5_drop 64 = .ok (.getfield 9, 3) := by decide +kernel
theorem d_X5_drop_67 : decode cX5_drop 67 = .ok (.iload_n 2, 1) := by decide +kernel
theorem d_X5_drop_68 : decode cX5_drop 68 = .ok (.aload_n 0, 1) := by decide +kernel
theorem d_X5_drop_69 : decode cX5_drop 69 = .ok (.getfield 9, 3) := by decide +kernel
theorem d_X5_drop_72 : decode cX5_drop 72 = .ok (.iload_n 2, 1) := by decide +kernel
theorem d_X5_drop_73 : decode cX5_drop 73 = .ok (.iconst 1, 1) := by decide +kernel
theorem d_X5_drop_74 : decode cX5_drop 74 = .ok (.iadd, 1) := by decide +kernel
theorem d_X5_drop_75 : decode cX5_drop 75 = .ok (.baload, 1) := by decide +kernel
theorem d_X5_drop_76 : decode cX5_drop 76 = .ok (.bastore, 1) := by decide +kernel
theorem d_X5_drop_77 : decode cX5_drop 77 = .ok (.aload_n 0, 1) := by decide +kernel
theorem d_X5_drop_78 : decode cX5_drop 78 = .ok (.getfield 20, 3) := by decide +kernel
theorem d_X5_drop_81 : decode cX5_drop 81 = .ok (.iload_n 2, 1) := by decide +kernel
theorem d_X5_drop_82 : decode cX5_drop 82 = .ok (.iconst 1, 1) := by decide +kernel
theorem d_X5_drop_83 : decode cX5_drop 83 = .ok (.iadd, 1) := by decide +kernel
theorem d_X5_drop_84 : decode cX5_drop 84 = .ok (.aaload, 1) := by decide +kernel
theorem d_X5_drop_85 : decode cX5_drop 85 = .ok (.iconst 0, 1) := by decide +kernel
theorem d_X5_drop_86 : decode cX5_drop 86 = .ok (.aload_n 0, 1) := by decide +kernel
theorem d_X5_drop_87 : decode cX5_drop 87 = .ok (.getfield 20, 3) := by decide +kernel
theorem d_X5_drop_90 : decode cX5_drop 90 = .ok (.iload_n 2, 1) := by decide +kernel
theorem d_X5_drop_91 : decode cX5_drop 91 = .ok (.aaload, 1) := by decide +kernel
theorem d_X5_drop_92 : decode cX5_drop 92 = .ok (.iconst 0, 1) := by decide +kernel
theorem d_X5_drop_93 : decode cX5_drop 93 = .ok (.bipush 6, 2) := by decide +kernel
theorem d_X5_drop_95 : decode cX5_drop 95 = .ok (.invokestatic 39, 3) := by decide +kernel
theorem d_X5_drop_98 : decode cX5_drop 98 = .ok (.iinc 2 1, 3) := by decide +kernel
theorem d_X5_drop_101 : decode cX5_drop 101 = .ok (.goto (-43), 3) := by decide +kernel
theorem d_X5_drop_104 : decode cX5_drop 104 = .ok (.aload_n 0, 1) := by decide +kernel
theorem d_X5_drop_105 : decode cX5_drop 105 = .ok (.getfield 9, 3) := by decide +kernel
theorem d_X5_drop_108 : decode cX5_drop 108 = .ok (.iconst 5, 1) := by decide +kernel
theorem d_X5_drop_109 : decode cX5_drop 109 = .ok (.iconst 0, 1) := by decide +kernel
theorem d_X5_drop_110 : decode cX5_drop 110 = .ok (.bastore, 1) := by decide +kernel
theorem d_X5_drop_111 : decode cX5_drop 111 = .ok (.aload_n 0, 1) := by decide +kernel
theorem d_X5_drop_112 : decode cX5_drop 112 = .ok (.getfield 20, 3) := by decide +kernel
theorem d_X5_drop_115 : decode cX5_drop 115 = .ok (.iconst 5, 1) := by decide +kernel
theorem d_X5_drop_116 : decode cX5_drop 116 = .ok (.aaload, 1) := by decide +kernel
theorem d_X5_drop_117 : decode cX5_drop 117 = .ok (.iconst 0, 1) := by decide +kernel
theorem d_X5_drop_118 : decode cX5_drop 118 = .ok (.invokestatic 33, 3) := by decide +kernel
theorem d_X5_drop_121 : decode cX5_drop 121 = .ok (.aload_n 0, 1) := by decide +kernel
theorem d_X5_drop_122 : decode cX5_drop 122 = .ok (.dup, 1) := by decide +kernel
theorem d_X5_drop_123 : decode cX5_drop 123 = .ok (.getfield 29, 3) := by decide +kernel
theorem d_X5_drop_126 : decode cX5_drop 126 = .ok (.iconst 1, 1) := by decide +kernel
theorem d_X5_drop_127 : decode cX5_drop 127 = .ok (.isub, 1) := by decide +kernel
theorem d_X5_drop_128 : decode cX5_drop 128 = .ok (.putfield 29, 3) := by decide +kernel
theorem d_X5_drop_131 : decode cX5_drop 131 = .ok (.return_, 1) := by decide +kernel
theorem b_X5_drop_0 {X : cX} {d : Nat} {μ : mM} {K : Option Value → mM → Prop} {r0 : Nat} {l1 : Int32} (hw5_r0 : WF5 μ r0) (h : ¬ (e_X5_has μ r0 l1) = 0 → G X (Rm (d + 2)) mX5_drop 11 [(0, .ref r0), (1, .int l1), (2, .int (nI 0))] [] μ 0 0 K) (hK : (e_X5_has μ r0 l1) = 0 → K none μ) : G X (Rm (d + 2)) mX5_drop 0 [(0, .ref r0), (1, .int l1)] [] μ 0 0 K := by
  refine G_aload_n d_X5_drop_0 rfl 0 rfl ?_
  refine G_iload_n d_X5_drop_1 rfl 1 rfl ?_
  refine G_callV (M' := mX5_has) (R' := (Rm (d + 1))) (S := []) [.int l1] 5 (w5_kd hw5_r0) cok5 rfl ok_X5_has ml_X5_45 pn_X5_has (ru_Rm (by decide)) (Nat.le_of_ble_eq_true rfl) d_X5_drop_2 (s_X5_has (μ := μ)  hw5_r0 ?_)
  show G X (Rm (d + 2)) mX5_drop 5 [(0, .ref r0), (1, .int l1)] [.int (e_X5_has μ r0 l1)] μ 0 0 K
  refine G_if_ne (tgt := 9) d_X5_drop_5 rfl (fun c0 => ?_) (fun c0 => ?_)
  ·
    refine G_iconst d_X5_drop_9 ic_0 ?_
    refine G_istore_n (L' := [(2, .int (nI 0)), (0, .ref r0), (1, .int l1)]) d_X5_drop_10 rfl (by decide) rfl ?_
    refine G_sub (L' := [(0, .ref r0), (1, .int l1), (2, .int (nI 0))]) [1, 2, 0] rfl ?_
    exact (h c0)
  ·
    exact G_vret rfl rfl rfl d_X5_drop_8 (hK c0)
theorem b_X5_drop_11 {X : cX} {d : Nat} {μ : mM} {K : Option Value → mM → Prop} {r0 : Nat} {l1 : Int32} {i2 : Nat} (h : (3 : Int32) ≤ (nI i2) → G X (Rm (d + 2)) mX5_drop 34 [(0, .ref r0), (1, .int l1), (2, .int (nI 0))] [] μ 0 0 K) (hw5_r0 : WF5 μ r0) (hb : ¬ (3 : Int32) ≤ (nI i2) → i2 < 3) (hc_closeGap : ¬ (3 : Int32) ≤ (nI i2) → Ct X (Rm (d + 1)) mX5_closeGap [.ref (r0 + 3 + i2), .int l1] μ (fun r μ2 => G X (Rm (d + 2)) mX5_drop 26 [(0, .ref r0), (1, .int l1), (2, .int (nI i2))] (r.toList ++ []) μ2 0 0 K)) : G X (Rm (d + 2)) mX5_drop 11 [(0, .ref r0), (1, .int l1), (2, .int (nI i2))] [] μ 0 0 K := by
  refine G_iload_n d_X5_drop_11 rfl 2 rfl ?_
  refine G_iconst d_X5_drop_12 ic_3 ?_
  refine G_icmp_ge (tgt := 32) d_X5_drop_13 rfl (fun c0 => ?_) (fun c0 => ?_)
  ·
    refine G_iconst d_X5_drop_32 ic_0 ?_
    refine G_istore_n (L' := [(2, .int (nI 0)), (0, .ref r0), (1, .int l1)]) d_X5_drop_33 rfl (by decide) rfl ?_
    refine G_sub (L' := [(0, .ref r0), (1, .int l1), (2, .int (nI 0))]) [1, 2, 0] rfl ?_
    exact (h c0)
  ·
    refine G_aload_n d_X5_drop_16 rfl 0 rfl ?_
    refine G_getR (r := r0 + 2) 5 2 (w5_kd hw5_r0) (w5_f2 hw5_r0) cok5 (by decide) rfl fl_X5_17 d_X5_drop_17 ?_
    refine G_iload_n d_X5_drop_20 rfl 2 rfl ?_
    refine G_aaldA (r := r0 + 3 + i2) i2 (w5_k2 hw5_r0) rfl (hb c0) (w5_r2 hw5_r0 i2 (hb c0)) d_X5_drop_21 ?_
    refine G_iload_n d_X5_drop_22 rfl 1 rfl ?_
    refine G_callS (M' := mX5_closeGap) (R' := (Rm (d + 1))) (S := []) [.ref (r0 + 3 + i2), .int l1] ok_X5_closeGap ml_X5_49 pn_X5_closeGap (ru_Rm (by decide)) (Nat.le_of_ble_eq_true rfl) d_X5_drop_23 ?_
    exact (hc_closeGap c0)
theorem b_X5_drop_26 {X : cX} {d : Nat} {μ : mM} {K : Option Value → mM → Prop} {r0 : Nat} {l1 : Int32} {i2 : Nat} (h : G X (Rm (d + 2)) mX5_drop 11 [(0, .ref r0), (1, .int l1), (2, .int (nI (i2 + 1)))] [] μ 0 0 K) : G X (Rm (d + 2)) mX5_drop 26 [(0, .ref r0), (1, .int l1), (2, .int (nI i2))] [] μ 0 0 K := by
  refine G_iinc (L' := [(2, .int (nI (i2 + 1))), (0, .ref r0), (1, .int l1)]) d_X5_drop_26 2 rfl (inc1 i2) (by decide) rfl ?_
  refine G_goto (tgt := 11) d_X5_drop_29 rfl ?_
  refine G_sub (L' := [(0, .ref r0), (1, .int l1), (2, .int (nI (i2 + 1)))]) [1, 2, 0] rfl ?_
  exact h
theorem b_X5_drop_34 {X : cX} {d : Nat} {μ : mM} {K : Option Value → mM → Prop} {r0 : Nat} {l1 : Int32} {i2 : Nat} (h : (6 : Int32) ≤ (nI i2) → G X (Rm (d + 2)) mX5_drop 58 [(0, .ref r0), (2, .int l1)] [] μ 0 0 K) (hw5_r0 : WF5 μ r0) (hb : ¬ (6 : Int32) ≤ (nI i2) → i2 < 6) (hc_closeGap : ¬ (6 : Int32) ≤ (nI i2) → Ct X (Rm (d + 1)) mX5_closeGap [.ref (r0 + 7 + i2), .int l1] μ (fun r μ2 => G X (Rm (d + 2)) mX5_drop 50 [(0, .ref r0), (1, .int l1), (2, .int (nI i2))] (r.toList ++ []) μ2 0 0 K)) : G X (Rm (d + 2)) mX5_drop 34 [(0, .ref r0), (1, .int l1), (2, .int (nI i2))] [] μ 0 0 K := by
  refine G_iload_n d_X5_drop_34 rfl 2 rfl ?_
  refine G_bipush d_X5_drop_35 bp_6 ?_
  refine G_icmp_ge (tgt := 56) d_X5_drop_37 rfl (fun c0 => ?_) (fun c0 => ?_)
  ·
    refine G_iload_n d_X5_drop_56 rfl 1 rfl ?_
    refine G_istore_n (L' := [(2, .int l1), (0, .ref r0), (1, .int l1)]) d_X5_drop_57 rfl (by decide) rfl ?_
    refine G_sub (L' := [(0, .ref r0), (2, .int l1)]) [1, 0] rfl ?_
    exact (h c0)
  ·
    refine G_aload_n d_X5_drop_40 rfl 0 rfl ?_
    refine G_getR (r := r0 + 6) 5 3 (w5_kd hw5_r0) (w5_f3 hw5_r0) cok5 (by decide) rfl fl_X5_20 d_X5_drop_41 ?_
    refine G_iload_n d_X5_drop_44 rfl 2 rfl ?_
    refine G_aaldA (r := r0 + 7 + i2) i2 (w5_k3 hw5_r0) rfl (hb c0) (w5_r3 hw5_r0 i2 (hb c0)) d_X5_drop_45 ?_
    refine G_iload_n d_X5_drop_46 rfl 1 rfl ?_
    refine G_callS (M' := mX5_closeGap) (R' := (Rm (d + 1))) (S := []) [.ref (r0 + 7 + i2), .int l1] ok_X5_closeGap ml_X5_49 pn_X5_closeGap (ru_Rm (by decide)) (Nat.le_of_ble_eq_true rfl) d_X5_drop_47 ?_
    exact (hc_closeGap c0)
theorem b_X5_drop_50 {X : cX} {d : Nat} {μ : mM} {K : Option Value → mM → Prop} {r0 : Nat} {l1 : Int32} {i2 : Nat} (h : G X (Rm (d + 2)) mX5_drop 34 [(0, .ref r0), (1, .int l1), (2, .int (nI (i2 + 1)))] [] μ 0 0 K) : G X (Rm (d + 2)) mX5_drop 50 [(0, .ref r0), (1, .int l1), (2, .int (nI i2))] [] μ 0 0 K := by
  refine G_iinc (L' := [(2, .int (nI (i2 + 1))), (0, .ref r0), (1, .int l1)]) d_X5_drop_50 2 rfl (inc1 i2) (by decide) rfl ?_
  refine G_goto (tgt := 34) d_X5_drop_53 rfl ?_
  refine G_sub (L' := [(0, .ref r0), (1, .int l1), (2, .int (nI (i2 + 1)))]) [1, 2, 0] rfl ?_
  exact h
theorem b_X5_drop_58 {X : cX} {d : Nat} {μ : mM} {K : Option Value → mM → Prop} {r0 : Nat} {i2 : Nat} (hw5_r0 : WF5 μ r0) (hc_fill : (5 : Int32) ≤ (nI i2) → Ct X (Rm (d + 1)) mJ7_fill_53178 [.ref (r0 + 7 + 5), .int 0] (wi μ (r0 + 1) 5 0) (fun r μ2 => G X (Rm (d + 2)) mX5_drop 121 [(0, .ref r0)] (r.toList ++ []) μ2 0 0 K)) (hb : ¬ (5 : Int32) ≤ (nI i2) → (i2 + 1) < 6) (hb_2 : ¬ (5 : Int32) ≤ (nI i2) → i2 < 6) (hz : ¬ (5 : Int32) ≤ (nI i2) → iv μ (r0 + 1) (i2 + 1) = 0 ∨ iv μ (r0 + 1) (i2 + 1) = 1) (h : ¬ (5 : Int32) ≤ (nI i2) → G X (Rm (d + 2)) mX5_drop 58 [(0, .ref r0), (2, .int (nI (i2 + 1)))] [] (cpI (wi μ (r0 + 1) i2 (iv μ (r0 + 1) (i2 + 1))) (r0 + 7 + (i2 + 1)) 0 (r0 + 7 + i2) 0 6) 0 0 K) : G X (Rm (d + 2)) mX5_drop 58 [(0, .ref r0), (2, .int (nI i2))] [] μ 0 0 K := by
  refine G_iload_n d_X5_drop_58 rfl 1 rfl ?_
  refine G_iconst d_X5_drop_59 ic_5 ?_
  refine G_icmp_ge (tgt := 104) d_X5_drop_60 rfl (fun c0 => ?_) (fun c0 => ?_)
  ·
    refine G_aload_n d_X5_drop_104 rfl 0 rfl ?_
    refine G_getR (r := r0 + 1) 5 1 (w5_kd hw5_r0) (w5_f1 hw5_r0) cok5 (by decide) rfl fl_X5_9 d_X5_drop_105 ?_
    refine G_iconst d_X5_drop_108 ic_5 ?_
    refine G_iconst d_X5_drop_109 ic_0 ?_
    refine G_zast (v := 0) 5 (w5_k1 hw5_r0) rfl (by decide) rfl d_X5_drop_110 ?_
    refine G_aload_n d_X5_drop_111 rfl 0 rfl ?_
    refine G_getR (r := r0 + 6) 5 3 (w5_kd hw5_r0) (w5_f3 hw5_r0) cok5 (by decide) rfl fl_X5_20 d_X5_drop_112 ?_
    refine G_iconst d_X5_drop_115 ic_5 ?_
    refine G_aaldA (r := r0 + 7 + 5) 5 (w5_k3 hw5_r0) rfl (by decide) (w5_r3 hw5_r0 5 (by decide)) d_X5_drop_116 ?_
    refine G_iconst d_X5_drop_117 ic_0 ?_
    refine G_sub (L' := [(0, .ref r0)]) [0] rfl ?_
    refine G_callS (M' := mJ7_fill_53178) (R' := (Rm (d + 1))) (S := []) [.ref (r0 + 7 + 5), .int 0] ok_J7_fill_53178 ml_X5_33 pn_J7_fill_53178 (ru_Rm (by decide)) (Nat.le_of_ble_eq_true rfl) d_X5_drop_118 ?_
    exact (hc_fill c0)
  ·
    refine G_aload_n d_X5_drop_63 rfl 0 rfl ?_
    refine G_getR (r := r0 + 1) 5 1 (w5_kd hw5_r0) (w5_f1 hw5_r0) cok5 (by decide) rfl fl_X5_9 d_X5_drop_64 ?_
    refine G_iload_n d_X5_drop_67 rfl 1 rfl ?_
    refine G_aload_n d_X5_drop_68 rfl 0 rfl ?_
    refine G_getR (r := r0 + 1) 5 1 (w5_kd hw5_r0) (w5_f1 hw5_r0) cok5 (by decide) rfl fl_X5_9 d_X5_drop_69 ?_
    refine G_iload_n d_X5_drop_72 rfl 1 rfl ?_
    refine G_iconst d_X5_drop_73 ic_1 ?_
    refine G_iadd d_X5_drop_74 ?_
    refine G_zald (i2 + 1) (w5_k1 hw5_r0) (nadd rfl rfl) (hb c0) d_X5_drop_75 ?_
    refine G_zast (v := iv μ (r0 + 1) (i2 + 1)) i2 (w5_k1 hw5_r0) rfl (hb_2 c0) (vpn_b (hz c0)) d_X5_drop_76 ?_
    refine G_aload_n d_X5_drop_77 rfl 0 rfl ?_
    refine G_getR (r := r0 + 6) 5 3 (w5_kd hw5_r0) (w5_f3 hw5_r0) cok5 (by decide) rfl fl_X5_20 d_X5_drop_78 ?_
    refine G_iload_n d_X5_drop_81 rfl 1 rfl ?_
    refine G_iconst d_X5_drop_82 ic_1 ?_
    refine G_iadd d_X5_drop_83 ?_
    refine G_aaldA (r := r0 + 7 + (i2 + 1)) (i2 + 1) (w5_k3 hw5_r0) (nadd rfl rfl) (hb c0) (w5_r3 hw5_r0 (i2 + 1) (hb c0)) d_X5_drop_84 ?_
    refine G_iconst d_X5_drop_85 ic_0 ?_
    refine G_aload_n d_X5_drop_86 rfl 0 rfl ?_
    refine G_getR (r := r0 + 6) 5 3 (w5_kd hw5_r0) (w5_f3 hw5_r0) cok5 (by decide) rfl fl_X5_20 d_X5_drop_87 ?_
    refine G_iload_n d_X5_drop_90 rfl 1 rfl ?_
    refine G_aaldA (r := r0 + 7 + i2) i2 (w5_k3 hw5_r0) rfl (hb_2 c0) (w5_r3 hw5_r0 i2 (hb_2 c0)) d_X5_drop_91 ?_
    refine G_iconst d_X5_drop_92 ic_0 ?_
    refine G_bipush d_X5_drop_93 bp_6 ?_
    refine G_copy (sp := 0) (dp := 0) (n := 6) (w5_q3 hw5_r0 (i2 + 1) (hb c0)) (w5_q3 hw5_r0 i2 (hb_2 c0)) rfl rfl rfl (by decide) (by decide) ml_X5_39 rb_Rm (Nat.le_of_ble_eq_true rfl) d_X5_drop_95 ?_
    refine G_iinc (L' := [(2, .int (nI (i2 + 1))), (0, .ref r0)]) d_X5_drop_98 1 rfl (inc1 i2) (by decide) rfl ?_
    refine G_goto (tgt := 58) d_X5_drop_101 rfl ?_
    refine G_sub (L' := [(0, .ref r0), (2, .int (nI (i2 + 1)))]) [1, 0] rfl ?_
    exact (h c0)
theorem b_X5_drop_121 {X : cX} {d : Nat} {μ : mM} {K : Option Value → mM → Prop} {r0 : Nat} (hw5_r0 : WF5 μ r0) (hK : K none (wi μ r0 0 ((iv μ r0 0) - 1))) : G X (Rm (d + 2)) mX5_drop 121 [(0, .ref r0)] [] μ 0 0 K := by
  refine G_aload_n d_X5_drop_121 rfl 0 rfl ?_
  refine G_dup d_X5_drop_122 rfl ?_
  refine G_getI 5 0 (w5_kd hw5_r0) cok5 (by decide) rfl fl_X5_29 d_X5_drop_123 ?_
  refine G_iconst d_X5_drop_126 ic_1 ?_
  refine G_isub d_X5_drop_127 ?_
  refine G_putI 5 0 (w5_kd hw5_r0) rfl rfl cok5 (by decide) rfl (Or.inl rfl) fl_X5_29 d_X5_drop_128 ?_
  exact G_vret rfl rfl rfl d_X5_drop_131 hK
theorem d_X5_manys_0 : decode cX5_manys 0 = .ok (.iconst 0, 1) := by decide +kernel
theorem d_X5_manys_1 : decode cX5_manys 1 = .ok (.istore_n 1, 1) := by decide +kernel
theorem d_X5_manys_2 : decode cX5_manys 2 = .ok (.iconst 0, 1) := by decide +kernel
theorem d_X5_manys_3 : decode cX5_manys 3 = .ok (.istore_n 2, 1) := by decide +kernel
theorem d_X5_manys_4 : decode cX5_manys 4 = .ok (.iload_n 2, 1) := by decide +kernel
theorem d_X5_manys_5 : decode cX5_manys 5 = .ok (.aload_n 0, 1) := by decide +kernel
theorem d_X5_manys_6 : decode cX5_manys 6 = .ok (.getfield 29, 3) := by decide +kernel
theorem d_X5_manys_9 : decode cX5_manys 9 = .ok (.if_icmp .ge 21, 3) := by decide +kernel
theorem d_X5_manys_12 : decode cX5_manys 12 = .ok (.aload_n 0, 1) := by decide +kernel
theorem d_X5_manys_13 : decode cX5_manys 13 = .ok (.getfield 9, 3) := by decide +kernel
theorem d_X5_manys_16 : decode cX5_manys 16 = .ok (.iload_n 2, 1) := by decide +kernel
theorem d_X5_manys_17 : decode cX5_manys 17 = .ok (.baload, 1) := by decide +kernel
theorem d_X5_manys_18 : decode cX5_manys 18 = .ok (.ifCond .eq 6, 3) := by decide +kernel
theorem d_X5_manys_21 : decode cX5_manys 21 = .ok (.iinc 1 1, 3) := by decide +kernel
theorem d_X5_manys_24 : decode cX5_manys 24 = .ok (.iinc 2 1, 3) := by decide +kernel
theorem d_X5_manys_27 : decode cX5_manys 27 = .ok (.goto (-23), 3) := by decide +kernel
theorem d_X5_manys_30 : decode cX5_manys 30 = .ok (.iload_n 1, 1) := by decide +kernel
theorem d_X5_manys_31 : decode cX5_manys 31 = .ok (.ireturn, 1) := by decide +kernel
theorem b_X5_manys_0 {X : cX} {d : Nat} {μ : mM} {K : Option Value → mM → Prop} {r0 : Nat} (h : G X (Rm d) mX5_manys 4 [(0, .ref r0), (1, .int (nI 0)), (2, .int (nI 0))] [] μ 0 0 K) : G X (Rm d) mX5_manys 0 [(0, .ref r0)] [] μ 0 0 K := by
  refine G_iconst d_X5_manys_0 ic_0 ?_
  refine G_istore_n (L' := [(1, .int (nI 0)), (0, .ref r0)]) d_X5_manys_1 rfl (by decide) rfl ?_
  refine G_iconst d_X5_manys_2 ic_0 ?_
  refine G_istore_n (L' := [(2, .int (nI 0)), (1, .int (nI 0)), (0, .ref r0)]) d_X5_manys_3 rfl (by decide) rfl ?_
  refine G_sub (L' := [(0, .ref r0), (1, .int (nI 0)), (2, .int (nI 0))]) [2, 1, 0] rfl ?_
  exact h
theorem b_X5_manys_4 {X : cX} {d : Nat} {μ : mM} {K : Option Value → mM → Prop} {r0 : Nat} {i1 : Nat} {i2 : Nat} (hw5_r0 : WF5 μ r0) (hK : (iv μ r0 0) ≤ (nI i2) → K (some (.int (nI i1))) μ) (hb : ¬ (iv μ r0 0) ≤ (nI i2) → i2 < 6) (h : ¬ (iv μ r0 0) ≤ (nI i2) → (iv μ (r0 + 1) i2) = 0 → G X (Rm d) mX5_manys 24 [(0, .ref r0), (1, .int (nI i1)), (2, .int (nI i2))] [] μ 0 0 K) (h_2 : ¬ (iv μ r0 0) ≤ (nI i2) → ¬ (iv μ (r0 + 1) i2) = 0 → G X (Rm d) mX5_manys 24 [(0, .ref r0), (1, .int (nI (i1 + 1))), (2, .int (nI i2))] [] μ 0 0 K) : G X (Rm d) mX5_manys 4 [(0, .ref r0), (1, .int (nI i1)), (2, .int (nI i2))] [] μ 0 0 K := by
  refine G_iload_n d_X5_manys_4 rfl 2 rfl ?_
  refine G_aload_n d_X5_manys_5 rfl 0 rfl ?_
  refine G_getI 5 0 (w5_kd hw5_r0) cok5 (by decide) rfl fl_X5_29 d_X5_manys_6 ?_
  refine G_icmp_ge (tgt := 30) d_X5_manys_9 rfl (fun c0 => ?_) (fun c0 => ?_)
  ·
    refine G_iload_n d_X5_manys_30 rfl 1 rfl ?_
    exact G_iret rfl rfl rfl d_X5_manys_31 (hK c0)
  ·
    refine G_aload_n d_X5_manys_12 rfl 0 rfl ?_
    refine G_getR (r := r0 + 1) 5 1 (w5_kd hw5_r0) (w5_f1 hw5_r0) cok5 (by decide) rfl fl_X5_9 d_X5_manys_13 ?_
    refine G_iload_n d_X5_manys_16 rfl 2 rfl ?_
    refine G_zald i2 (w5_k1 hw5_r0) rfl (hb c0) d_X5_manys_17 ?_
    refine G_if_eq (tgt := 24) d_X5_manys_18 rfl (fun c1 => ?_) (fun c1 => ?_)
    ·
      exact (h c0 c1)
    ·
      refine G_iinc (L' := [(1, .int (nI (i1 + 1))), (0, .ref r0), (2, .int (nI i2))]) d_X5_manys_21 1 rfl (inc1 i1) (by decide) rfl ?_
      refine G_sub (L' := [(0, .ref r0), (1, .int (nI (i1 + 1))), (2, .int (nI i2))]) [1, 0, 2] rfl ?_
      exact (h_2 c0 c1)
theorem b_X5_manys_24 {X : cX} {d : Nat} {μ : mM} {K : Option Value → mM → Prop} {r0 : Nat} {l1 : Int32} {i2 : Nat} (h : G X (Rm d) mX5_manys 4 [(0, .ref r0), (1, .int l1), (2, .int (nI (i2 + 1)))] [] μ 0 0 K) : G X (Rm d) mX5_manys 24 [(0, .ref r0), (1, .int l1), (2, .int (nI i2))] [] μ 0 0 K := by
  refine G_iinc (L' := [(2, .int (nI (i2 + 1))), (0, .ref r0), (1, .int l1)]) d_X5_manys_24 2 rfl (inc1 i2) (by decide) rfl ?_
  refine G_goto (tgt := 4) d_X5_manys_27 rfl ?_
  refine G_sub (L' := [(0, .ref r0), (1, .int l1), (2, .int (nI (i2 + 1)))]) [1, 2, 0] rfl ?_
  exact h
theorem d_X5_cellsThatAre_0 : decode cX5_cellsThatAre 0 = .ok (.iconst 0, 1) := by decide +kernel
theorem d_X5_cellsThatAre_1 : decode cX5_cellsThatAre 1 = .ok (.istore_n 3, 1) := by decide +kernel
theorem d_X5_cellsThatAre_2 : decode cX5_cellsThatAre 2 = .ok (.iconst 0, 1) := by decide +kernel
theorem d_X5_cellsThatAre_3 : decode cX5_cellsThatAre 3 = .ok (.istore 4, 2) := by decide +kernel
theorem d_X5_cellsThatAre_5 : decode cX5_cellsThatAre 5 = .ok (.iload 4, 2) := by decide +kernel
theorem d_X5_cellsThatAre_7 : decode cX5_cellsThatAre 7 = .ok (.aload_n 0, 1) := by decide +kernel
theorem d_X5_cellsThatAre_8 : decode cX5_cellsThatAre 8 = .ok (.getfield 29, 3) := by decide +kernel
theorem d_X5_cellsThatAre_11 : decode cX5_cellsThatAre 11 = .ok (.if_icmp .ge 20, 3) := by decide +kernel
theorem d_X5_cellsThatAre_14 : decode cX5_cellsThatAre 14 = .ok (.aload_n 1, 1) := by decide +kernel
theorem d_X5_cellsThatAre_15 : decode cX5_cellsThatAre 15 = .ok (.iload 4, 2) := by decide +kernel
theorem d_X5_cellsThatAre_17 : decode cX5_cellsThatAre 17 = .ok (.iaload, 1) := by decide +kernel
theorem d_X5_cellsThatAre_18 : decode cX5_cellsThatAre 18 = .ok (.iload_n 2, 1) := by decide +kernel
theorem d_X5_cellsThatAre_19 : decode cX5_cellsThatAre 19 = .ok (.if_icmp .ne 6, 3) := by decide +kernel
theorem d_X5_cellsThatAre_22 : decode cX5_cellsThatAre 22 = .ok (.iinc 3 1, 3) := by decide +kernel
theorem d_X5_cellsThatAre_25 : decode cX5_cellsThatAre 25 = .ok (.iinc 4 1, 3) := by decide +kernel
theorem d_X5_cellsThatAre_28 : decode cX5_cellsThatAre 28 = .ok (.goto (-23), 3) := by decide +kernel
theorem d_X5_cellsThatAre_31 : decode cX5_cellsThatAre 31 = .ok (.iload_n 3, 1) := by decide +kernel
theorem d_X5_cellsThatAre_32 : decode cX5_cellsThatAre 32 = .ok (.ireturn, 1) := by decide +kernel
theorem b_X5_cellsThatAre_0 {X : cX} {d : Nat} {μ : mM} {K : Option Value → mM → Prop} {r0 : Nat} {r1 : Nat} {l2 : Int32} (h : G X (Rm d) mX5_cellsThatAre 5 [(0, .ref r0), (1, .ref r1), (2, .int l2), (3, .int (nI 0)), (4, .int (nI 0))] [] μ 0 0 K) : G X (Rm d) mX5_cellsThatAre 0 [(0, .ref r0), (1, .ref r1), (2, .int l2)] [] μ 0 0 K := by
  refine G_iconst d_X5_cellsThatAre_0 ic_0 ?_
  refine G_istore_n (L' := [(3, .int (nI 0)), (0, .ref r0), (1, .ref r1), (2, .int l2)]) d_X5_cellsThatAre_1 rfl (by decide) rfl ?_
  refine G_iconst d_X5_cellsThatAre_2 ic_0 ?_
  refine G_istore (L' := [(4, .int (nI 0)), (3, .int (nI 0)), (0, .ref r0), (1, .ref r1), (2, .int l2)]) d_X5_cellsThatAre_3 (by decide) rfl ?_
  refine G_sub (L' := [(0, .ref r0), (1, .ref r1), (2, .int l2), (3, .int (nI 0)), (4, .int (nI 0))]) [2, 3, 4, 1, 0] rfl ?_
  exact h
theorem b_X5_cellsThatAre_5 {X : cX} {d : Nat} {μ : mM} {K : Option Value → mM → Prop} {r0 : Nat} {r1 : Nat} {l2 : Int32} {i3 : Nat} {i4 : Nat} {n0 : Nat} (hw5_r0 : WF5 μ r0) (hK : (iv μ r0 0) ≤ (nI i4) → K (some (.int (nI i3))) μ) (hk_r1 : kd μ r1 = (1, n0)) (hb : ¬ (iv μ r0 0) ≤ (nI i4) → i4 < n0) (h : ¬ (iv μ r0 0) ≤ (nI i4) → ¬ (iv μ r1 i4) = l2 → G X (Rm d) mX5_cellsThatAre 25 [(0, .ref r0), (1, .ref r1), (2, .int l2), (3, .int (nI i3)), (4, .int (nI i4))] [] μ 0 0 K) (h_2 : ¬ (iv μ r0 0) ≤ (nI i4) → (iv μ r1 i4) = l2 → G X (Rm d) mX5_cellsThatAre 25 [(0, .ref r0), (1, .ref r1), (2, .int l2), (3, .int (nI (i3 + 1))), (4, .int (nI i4))] [] μ 0 0 K) : G X (Rm d) mX5_cellsThatAre 5 [(0, .ref r0), (1, .ref r1), (2, .int l2), (3, .int (nI i3)), (4, .int (nI i4))] [] μ 0 0 K := by
  refine G_iload d_X5_cellsThatAre_5 4 rfl ?_
  refine G_aload_n d_X5_cellsThatAre_7 rfl 0 rfl ?_
  refine G_getI 5 0 (w5_kd hw5_r0) cok5 (by decide) rfl fl_X5_29 d_X5_cellsThatAre_8 ?_
  refine G_icmp_ge (tgt := 31) d_X5_cellsThatAre_11 rfl (fun c0 => ?_) (fun c0 => ?_)
  ·
    refine G_iload_n d_X5_cellsThatAre_31 rfl 3 rfl ?_
    exact G_iret rfl rfl rfl d_X5_cellsThatAre_32 (hK c0)
  ·
    refine G_aload_n d_X5_cellsThatAre_14 rfl 1 rfl ?_
    refine G_iload d_X5_cellsThatAre_15 4 rfl ?_
    refine G_iald i4 hk_r1 rfl (hb c0) d_X5_cellsThatAre_17 ?_
    refine G_iload_n d_X5_cellsThatAre_18 rfl 2 rfl ?_
    refine G_icmp_ne (tgt := 25) d_X5_cellsThatAre_19 rfl (fun c1 => ?_) (fun c1 => ?_)
    ·
      exact (h c0 c1)
    ·
      refine G_iinc (L' := [(3, .int (nI (i3 + 1))), (0, .ref r0), (1, .ref r1), (2, .int l2), (4, .int (nI i4))]) d_X5_cellsThatAre_22 3 rfl (inc1 i3) (by decide) rfl ?_
      refine G_sub (L' := [(0, .ref r0), (1, .ref r1), (2, .int l2), (3, .int (nI (i3 + 1))), (4, .int (nI i4))]) [1, 2, 3, 0, 4] rfl ?_
      exact (h_2 c0 c1)
theorem b_X5_cellsThatAre_25 {X : cX} {d : Nat} {μ : mM} {K : Option Value → mM → Prop} {r0 : Nat} {r1 : Nat} {l2 : Int32} {l3 : Int32} {i4 : Nat} (h : G X (Rm d) mX5_cellsThatAre 5 [(0, .ref r0), (1, .ref r1), (2, .int l2), (3, .int l3), (4, .int (nI (i4 + 1)))] [] μ 0 0 K) : G X (Rm d) mX5_cellsThatAre 25 [(0, .ref r0), (1, .ref r1), (2, .int l2), (3, .int l3), (4, .int (nI i4))] [] μ 0 0 K := by
  refine G_iinc (L' := [(4, .int (nI (i4 + 1))), (0, .ref r0), (1, .ref r1), (2, .int l2), (3, .int l3)]) d_X5_cellsThatAre_25 4 rfl (inc1 i4) (by decide) rfl ?_
  refine G_goto (tgt := 5) d_X5_cellsThatAre_28 rfl ?_
  refine G_sub (L' := [(0, .ref r0), (1, .ref r1), (2, .int l2), (3, .int l3), (4, .int (nI (i4 + 1)))]) [1, 2, 3, 4, 0] rfl ?_
  exact h
theorem d_X5_atsThatAre_0 : decode cX5_atsThatAre 0 = .ok (.iconst 0, 1) := by decide +kernel
theorem d_X5_atsThatAre_1 : decode cX5_atsThatAre 1 = .ok (.istore_n 2, 1) := by decide +kernel
theorem d_X5_atsThatAre_2 : decode cX5_atsThatAre 2 = .ok (.iconst 0, 1) := by decide +kernel
theorem d_X5_atsThatAre_3 : decode cX5_atsThatAre 3 = .ok (.istore_n 3, 1) := by decide +kernel
theorem d_X5_atsThatAre_4 : decode cX5_atsThatAre 4 = .ok (.iload_n 3, 1) := by decide +kernel
theorem d_X5_atsThatAre_5 : decode cX5_atsThatAre 5 = .ok (.iconst 3, 1) := by decide +kernel
theorem d_X5_atsThatAre_6 : decode cX5_atsThatAre 6 = .ok (.if_icmp .ge 23, 3) := by decide +kernel
theorem d_X5_atsThatAre_9 : decode cX5_atsThatAre 9 = .ok (.iload_n 2, 1) := by decide +kernel
theorem d_X5_atsThatAre_10 : decode cX5_atsThatAre 10 = .ok (.aload_n 0, 1) := by decide +kernel
theorem d_X5_atsThatAre_11 : decode cX5_atsThatAre 11 = .ok (.aload_n 0, 1) := by decide +kernel
theorem d_X5_atsThatAre_12 : decode cX5_atsThatAre 12 = .ok (.getfield 17, 3) := by decide +kernel
theorem d_X5_atsThatAre_15 : decode cX5_atsThatAre 15 = .ok (.iload_n 3, 1) := by decide +kernel
theorem d_X5_atsThatAre_16 : decode cX5_atsThatAre 16 = .ok (.aaload, 1) := by decide +kernel
theorem d_X5_atsThatAre_17 : decode cX5_atsThatAre 17 = .ok (.iload_n 1, 1) := by decide +kernel
theorem d_X5_atsThatAre_18 : decode cX5_atsThatAre 18 = .ok (.invokevirtual 58, 3) := by decide +kernel
theorem d_X5_atsThatAre_21 : decode cX5_atsThatAre 21 = .ok (.iadd, 1) := by decide +kernel
theorem d_X5_atsThatAre_22 : decode cX5_atsThatAre 22 = .ok (.istore_n 2, 1) := by decide +kernel
theorem d_X5_atsThatAre_23 : decode cX5_atsThatAre 23 = .ok (.iinc 3 1, 3) := by decide +kernel
theorem d_X5_atsThatAre_26 : decode cX5_atsThatAre 26 = .ok (.goto (-22), 3) := by decide +kernel
theorem d_X5_atsThatAre_29 : decode cX5_atsThatAre 29 = .ok (.iload_n 2, 1) := by decide +kernel
theorem d_X5_atsThatAre_30 : decode cX5_atsThatAre 30 = .ok (.ireturn, 1) := by decide +kernel
theorem b_X5_atsThatAre_0 {X : cX} {d : Nat} {μ : mM} {K : Option Value → mM → Prop} {r0 : Nat} {l1 : Int32} (h : G X (Rm (d + 1)) mX5_atsThatAre 4 [(0, .ref r0), (1, .int l1), (2, .int 0), (3, .int (nI 0))] [] μ 0 0 K) : G X (Rm (d + 1)) mX5_atsThatAre 0 [(0, .ref r0), (1, .int l1)] [] μ 0 0 K := by
  refine G_iconst d_X5_atsThatAre_0 ic_0 ?_
  refine G_istore_n (L' := [(2, .int 0), (0, .ref r0), (1, .int l1)]) d_X5_atsThatAre_1 rfl (by decide) rfl ?_
  refine G_iconst d_X5_atsThatAre_2 ic_0 ?_
  refine G_istore_n (L' := [(3, .int (nI 0)), (2, .int 0), (0, .ref r0), (1, .int l1)]) d_X5_atsThatAre_3 rfl (by decide) rfl ?_
  refine G_sub (L' := [(0, .ref r0), (1, .int l1), (2, .int 0), (3, .int (nI 0))]) [2, 3, 1, 0] rfl ?_
  exact h
theorem b_X5_atsThatAre_4 {X : cX} {d : Nat} {μ : mM} {K : Option Value → mM → Prop} {r0 : Nat} {l1 : Int32} {l2 : Int32} {i3 : Nat} (hK : (3 : Int32) ≤ (nI i3) → K (some (.int l2)) μ) (hw5_r0 : WF5 μ r0) (hb : ¬ (3 : Int32) ≤ (nI i3) → i3 < 3) (hc_cellsThatAre : ¬ (3 : Int32) ≤ (nI i3) → Ct X (Rm d) mX5_cellsThatAre [.ref r0, .ref (r0 + 3 + i3), .int l1] μ (fun r μ2 => G X (Rm (d + 1)) mX5_atsThatAre 21 [(0, .ref r0), (1, .int l1), (3, .int (nI i3))] (r.toList ++ [.int l2]) μ2 0 0 K)) : G X (Rm (d + 1)) mX5_atsThatAre 4 [(0, .ref r0), (1, .int l1), (2, .int l2), (3, .int (nI i3))] [] μ 0 0 K := by
  refine G_iload_n d_X5_atsThatAre_4 rfl 3 rfl ?_
  refine G_iconst d_X5_atsThatAre_5 ic_3 ?_
  refine G_icmp_ge (tgt := 29) d_X5_atsThatAre_6 rfl (fun c0 => ?_) (fun c0 => ?_)
  ·
    refine G_iload_n d_X5_atsThatAre_29 rfl 2 rfl ?_
    exact G_iret rfl rfl rfl d_X5_atsThatAre_30 (hK c0)
  ·
    refine G_iload_n d_X5_atsThatAre_9 rfl 2 rfl ?_
    refine G_aload_n d_X5_atsThatAre_10 rfl 0 rfl ?_
    refine G_aload_n d_X5_atsThatAre_11 rfl 0 rfl ?_
    refine G_getR (r := r0 + 2) 5 2 (w5_kd hw5_r0) (w5_f2 hw5_r0) cok5 (by decide) rfl fl_X5_17 d_X5_atsThatAre_12 ?_
    refine G_iload_n d_X5_atsThatAre_15 rfl 3 rfl ?_
    refine G_aaldA (r := r0 + 3 + i3) i3 (w5_k2 hw5_r0) rfl (hb c0) (w5_r2 hw5_r0 i3 (hb c0)) d_X5_atsThatAre_16 ?_
    refine G_iload_n d_X5_atsThatAre_17 rfl 1 rfl ?_
    refine G_sub (L' := [(0, .ref r0), (1, .int l1), (3, .int (nI i3))]) [0, 1, 3] rfl ?_
    refine G_callV (M' := mX5_cellsThatAre) (R' := (Rm d)) (S := [.int l2]) [.ref (r0 + 3 + i3), .int l1] 5 (w5_kd hw5_r0) cok5 rfl ok_X5_cellsThatAre ml_X5_58 pn_X5_cellsThatAre (ru_Rm (by decide)) (Nat.le_of_ble_eq_true rfl) d_X5_atsThatAre_18 ?_
    exact (hc_cellsThatAre c0)
theorem b_X5_atsThatAre_21 {X : cX} {d : Nat} {μ : mM} {K : Option Value → mM → Prop} {r0 : Nat} {l1 : Int32} {i3 : Nat} {v0 : Int32} {v1 : Int32} (h : G X (Rm (d + 1)) mX5_atsThatAre 4 [(0, .ref r0), (1, .int l1), (2, .int (v0 + v1)), (3, .int (nI (i3 + 1)))] [] μ 0 0 K) : G X (Rm (d + 1)) mX5_atsThatAre 21 [(0, .ref r0), (1, .int l1), (3, .int (nI i3))] [.int v1, .int v0] μ 0 0 K := by
  refine G_iadd d_X5_atsThatAre_21 ?_
  refine G_istore_n (L' := [(2, .int (v0 + v1)), (0, .ref r0), (1, .int l1), (3, .int (nI i3))]) d_X5_atsThatAre_22 rfl (by decide) rfl ?_
  refine G_iinc (L' := [(3, .int (nI (i3 + 1))), (2, .int (v0 + v1)), (0, .ref r0), (1, .int l1)]) d_X5_atsThatAre_23 3 rfl (inc1 i3) (by decide) rfl ?_
  refine G_goto (tgt := 4) d_X5_atsThatAre_26 rfl ?_
  refine G_sub (L' := [(0, .ref r0), (1, .int l1), (2, .int (v0 + v1)), (3, .int (nI (i3 + 1)))]) [2, 3, 1, 0] rfl ?_
  exact h
theorem d_X5_nextsThatAre_0 : decode cX5_nextsThatAre 0 = .ok (.iconst 0, 1) := by decide +kernel
theorem d_X5_nextsThatAre_1 : decode cX5_nextsThatAre 1 = .ok (.istore_n 2, 1) := by decide +kernel
theorem d_X5_nextsThatAre_2 : decode cX5_nextsThatAre 2 = .ok (.iconst 0, 1) := by decide +kernel
theorem d_X5_nextsThatAre_3 : decode cX5_nextsThatAre 3 = .ok (.istore_n 3, 1) := by decide +kernel
theorem d_X5_nextsThatAre_4 : decode cX5_nextsThatAre 4 = .ok (.iload_n 3, 1) := by decide +kernel
theorem d_X5_nextsThatAre_5 : decode cX5_nextsThatAre 5 = .ok (.aload_n 0, 1) := by decide +kernel
theorem d_X5_nextsThatAre_6 : decode cX5_nextsThatAre 6 = .ok (.getfield 29, 3) := by decide +kernel
theorem d_X5_nextsThatAre_9 : decode cX5_nextsThatAre 9 = .ok (.if_icmp .ge 23, 3) := by decide +kernel
theorem d_X5_nextsThatAre_12 : decode cX5_nextsThatAre 12 = .ok (.iload_n 2, 1) := by decide +kernel
theorem d_X5_nextsThatAre_13 : decode cX5_nextsThatAre 13 = .ok (.aload_n 0, 1) := by decide +kernel
theorem d_X5_nextsThatAre_14 : decode cX5_nextsThatAre 14 = .ok (.aload_n 0, 1) := by decide +kernel
theorem d_X5_nextsThatAre_15 : decode cX5_nextsThatAre 15 = .ok (.getfield 20, 3) := by decide +kernel
theorem d_X5_nextsThatAre_18 : decode cX5_nextsThatAre 18 = .ok (.iload_n 3, 1) := by decide +kernel
theorem d_X5_nextsThatAre_19 : decode cX5_nextsThatAre 19 = .ok (.aaload, 1) := by decide +kernel
theorem d_X5_nextsThatAre_20 : decode cX5_nextsThatAre 20 = .ok (.iload_n 1, 1) := by decide +kernel
theorem d_X5_nextsThatAre_21 : decode cX5_nextsThatAre 21 = .ok (.invokevirtual 58, 3) := by decide +kernel
theorem d_X5_nextsThatAre_24 : decode cX5_nextsThatAre 24 = .ok (.iadd, 1) := by decide +kernel
theorem d_X5_nextsThatAre_25 : decode cX5_nextsThatAre 25 = .ok (.istore_n 2, 1) := by decide +kernel
theorem d_X5_nextsThatAre_26 : decode cX5_nextsThatAre 26 = .ok (.iinc 3 1, 3) := by decide +kernel
theorem d_X5_nextsThatAre_29 : decode cX5_nextsThatAre 29 = .ok (.goto (-25), 3) := by decide +kernel
theorem d_X5_nextsThatAre_32 : decode cX5_nextsThatAre 32 = .ok (.iload_n 2, 1) := by decide +kernel
theorem d_X5_nextsThatAre_33 : decode cX5_nextsThatAre 33 = .ok (.ireturn, 1) := by decide +kernel
theorem b_X5_nextsThatAre_0 {X : cX} {d : Nat} {μ : mM} {K : Option Value → mM → Prop} {r0 : Nat} {l1 : Int32} (h : G X (Rm (d + 1)) mX5_nextsThatAre 4 [(0, .ref r0), (1, .int l1), (2, .int 0), (3, .int (nI 0))] [] μ 0 0 K) : G X (Rm (d + 1)) mX5_nextsThatAre 0 [(0, .ref r0), (1, .int l1)] [] μ 0 0 K := by
  refine G_iconst d_X5_nextsThatAre_0 ic_0 ?_
  refine G_istore_n (L' := [(2, .int 0), (0, .ref r0), (1, .int l1)]) d_X5_nextsThatAre_1 rfl (by decide) rfl ?_
  refine G_iconst d_X5_nextsThatAre_2 ic_0 ?_
  refine G_istore_n (L' := [(3, .int (nI 0)), (2, .int 0), (0, .ref r0), (1, .int l1)]) d_X5_nextsThatAre_3 rfl (by decide) rfl ?_
  refine G_sub (L' := [(0, .ref r0), (1, .int l1), (2, .int 0), (3, .int (nI 0))]) [2, 3, 1, 0] rfl ?_
  exact h
theorem b_X5_nextsThatAre_4 {X : cX} {d : Nat} {μ : mM} {K : Option Value → mM → Prop} {r0 : Nat} {l1 : Int32} {l2 : Int32} {i3 : Nat} (hw5_r0 : WF5 μ r0) (hK : (iv μ r0 0) ≤ (nI i3) → K (some (.int l2)) μ) (hb : ¬ (iv μ r0 0) ≤ (nI i3) → i3 < 6) (hc_cellsThatAre : ¬ (iv μ r0 0) ≤ (nI i3) → Ct X (Rm d) mX5_cellsThatAre [.ref r0, .ref (r0 + 7 + i3), .int l1] μ (fun r μ2 => G X (Rm (d + 1)) mX5_nextsThatAre 24 [(0, .ref r0), (1, .int l1), (3, .int (nI i3))] (r.toList ++ [.int l2]) μ2 0 0 K)) : G X (Rm (d + 1)) mX5_nextsThatAre 4 [(0, .ref r0), (1, .int l1), (2, .int l2), (3, .int (nI i3))] [] μ 0 0 K := by
  refine G_iload_n d_X5_nextsThatAre_4 rfl 3 rfl ?_
  refine G_aload_n d_X5_nextsThatAre_5 rfl 0 rfl ?_
  refine G_getI 5 0 (w5_kd hw5_r0) cok5 (by decide) rfl fl_X5_29 d_X5_nextsThatAre_6 ?_
  refine G_icmp_ge (tgt := 32) d_X5_nextsThatAre_9 rfl (fun c0 => ?_) (fun c0 => ?_)
  ·
    refine G_iload_n d_X5_nextsThatAre_32 rfl 2 rfl ?_
    exact G_iret rfl rfl rfl d_X5_nextsThatAre_33 (hK c0)
  ·
    refine G_iload_n d_X5_nextsThatAre_12 rfl 2 rfl ?_
    refine G_aload_n d_X5_nextsThatAre_13 rfl 0 rfl ?_
    refine G_aload_n d_X5_nextsThatAre_14 rfl 0 rfl ?_
    refine G_getR (r := r0 + 6) 5 3 (w5_kd hw5_r0) (w5_f3 hw5_r0) cok5 (by decide) rfl fl_X5_20 d_X5_nextsThatAre_15 ?_
    refine G_iload_n d_X5_nextsThatAre_18 rfl 3 rfl ?_
    refine G_aaldA (r := r0 + 7 + i3) i3 (w5_k3 hw5_r0) rfl (hb c0) (w5_r3 hw5_r0 i3 (hb c0)) d_X5_nextsThatAre_19 ?_
    refine G_iload_n d_X5_nextsThatAre_20 rfl 1 rfl ?_
    refine G_sub (L' := [(0, .ref r0), (1, .int l1), (3, .int (nI i3))]) [0, 1, 3] rfl ?_
    refine G_callV (M' := mX5_cellsThatAre) (R' := (Rm d)) (S := [.int l2]) [.ref (r0 + 7 + i3), .int l1] 5 (w5_kd hw5_r0) cok5 rfl ok_X5_cellsThatAre ml_X5_58 pn_X5_cellsThatAre (ru_Rm (by decide)) (Nat.le_of_ble_eq_true rfl) d_X5_nextsThatAre_21 ?_
    exact (hc_cellsThatAre c0)
theorem b_X5_nextsThatAre_24 {X : cX} {d : Nat} {μ : mM} {K : Option Value → mM → Prop} {r0 : Nat} {l1 : Int32} {i3 : Nat} {v0 : Int32} {v1 : Int32} (h : G X (Rm (d + 1)) mX5_nextsThatAre 4 [(0, .ref r0), (1, .int l1), (2, .int (v0 + v1)), (3, .int (nI (i3 + 1)))] [] μ 0 0 K) : G X (Rm (d + 1)) mX5_nextsThatAre 24 [(0, .ref r0), (1, .int l1), (3, .int (nI i3))] [.int v1, .int v0] μ 0 0 K := by
  refine G_iadd d_X5_nextsThatAre_24 ?_
  refine G_istore_n (L' := [(2, .int (v0 + v1)), (0, .ref r0), (1, .int l1), (3, .int (nI i3))]) d_X5_nextsThatAre_25 rfl (by decide) rfl ?_
  refine G_iinc (L' := [(3, .int (nI (i3 + 1))), (2, .int (v0 + v1)), (0, .ref r0), (1, .int l1)]) d_X5_nextsThatAre_26 3 rfl (inc1 i3) (by decide) rfl ?_
  refine G_goto (tgt := 4) d_X5_nextsThatAre_29 rfl ?_
  refine G_sub (L' := [(0, .ref r0), (1, .int l1), (2, .int (v0 + v1)), (3, .int (nI (i3 + 1)))]) [2, 3, 1, 0] rfl ?_
  exact h
theorem d_X5_isHeap_0 : decode cX5_isHeap 0 = .ok (.aload_n 0, 1) := by decide +kernel
theorem d_X5_isHeap_1 : decode cX5_isHeap 1 = .ok (.invokevirtual 62, 3) := by decide +kernel
theorem d_X5_isHeap_4 : decode cX5_isHeap 4 = .ok (.ifCond .ne 23, 3) := by decide +kernel
theorem d_X5_isHeap_7 : decode cX5_isHeap 7 = .ok (.aload_n 0, 1) := by decide +kernel
theorem d_X5_isHeap_8 : decode cX5_isHeap 8 = .ok (.iconst 1, 1) := by decide +kernel
theorem d_X5_isHeap_9 : decode cX5_isHeap 9 = .ok (.invokevirtual 66, 3) := by decide +kernel
theorem d_X5_isHeap_12 : decode cX5_isHeap 12 = .ok (.ifCond .ne 15, 3) := by decide +kernel
theorem d_X5_isHeap_15 : decode cX5_isHeap 15 = .ok (.aload_n 0, 1) := by decide +kernel
theorem d_X5_isHeap_16 : decode cX5_isHeap 16 = .ok (.iconst 1, 1) := by decide +kernel
theorem d_X5_isHeap_17 : decode cX5_isHeap 17 = .ok (.invokevirtual 70, 3) := by decide +kernel
theorem d_X5_isHeap_20 : decode cX5_isHeap 20 = .ok (.ifCond .ne 7, 3) := by decide +kernel
theorem d_X5_isHeap_23 : decode cX5_isHeap 23 = .ok (.iconst 1, 1) := by decide +kernel
theorem d_X5_isHeap_24 : decode cX5_isHeap 24 = .ok (.goto 4, 3) := by decide +kernel
theorem d_X5_isHeap_27 : decode cX5_isHeap 27 = .ok (.iconst 0, 1) := by decide +kernel
theorem d_X5_isHeap_28 : decode cX5_isHeap 28 = .ok (.istore_n 1, 1) := by decide +kernel
theorem d_X5_isHeap_29 : decode cX5_isHeap 29 = .ok (.iconst 0, 1) := by decide +kernel
theorem d_X5_isHeap_30 : decode cX5_isHeap 30 = .ok (.istore_n 2, 1) := by decide +kernel
theorem d_X5_isHeap_31 : decode cX5_isHeap 31 = .ok (.iload_n 2, 1) := by decide +kernel
theorem d_X5_isHeap_32 : decode cX5_isHeap 32 = .ok (.iconst 3, 1) := by decide +kernel
theorem d_X5_isHeap_33 : decode cX5_isHeap 33 = .ok (.if_icmp .ge 34, 3) := by decide +kernel
theorem d_X5_isHeap_36 : decode cX5_isHeap 36 = .ok (.iload_n 1, 1) := by decide +kernel
theorem d_X5_isHeap_37 : decode cX5_isHeap 37 = .ok (.ifCond .eq 30, 3) := by decide +kernel
theorem d_X5_isHeap_40 : decode cX5_isHeap 40 = .ok (.aload_n 0, 1) := by decide +kernel
theorem d_X5_isHeap_41 : decode cX5_isHeap 41 = .ok (.aload_n 0, 1) := by decide +kernel
theorem d_X5_isHeap_42 : decode cX5_isHeap 42 = .ok (.getfield 17, 3) := by decide +kernel
theorem d_X5_isHeap_45 : decode cX5_isHeap 45 = .ok (.iload_n 2, 1) := by decide +kernel
theorem d_X5_isHeap_46 : decode cX5_isHeap 46 = .ok (.aaload, 1) := by decide +kernel
theorem d_X5_isHeap_47 : decode cX5_isHeap 47 = .ok (.iconst 2, 1) := by decide +kernel
theorem d_X5_isHeap_48 : decode cX5_isHeap 48 = .ok (.invokevirtual 58, 3) := by decide +kernel
theorem d_X5_isHeap_51 : decode cX5_isHeap 51 = .ok (.iconst 1, 1) := by decide +kernel
theorem d_X5_isHeap_52 : decode cX5_isHeap 52 = .ok (.if_icmp .gt 7, 3) := by decide +kernel
theorem d_X5_isHeap_55 : decode cX5_isHeap 55 = .ok (.iconst 1, 1) := by decide +kernel
theorem d_X5_isHeap_56 : decode cX5_isHeap 56 = .ok (.goto 4, 3) := by decide +kernel
theorem d_X5_isHeap_59 : decode cX5_isHeap 59 = .ok (.iconst 0, 1) := by decide +kernel
theorem d_X5_isHeap_60 : decode cX5_isHeap 60 = .ok (.istore_n 1, 1) := by decide +kernel
theorem d_X5_isHeap_61 : decode cX5_isHeap 61 = .ok (.iinc 2 1, 3) := by decide +kernel
theorem d_X5_isHeap_64 : decode cX5_isHeap 64 = .ok (.goto (-33), 3) := by decide +kernel
theorem d_X5_isHeap_67 : decode cX5_isHeap 67 = .ok (.iconst 0, 1) := by decide +kernel
theorem d_X5_isHeap_68 : decode cX5_isHeap 68 = .ok (.istore_n 2, 1) := by decide +kernel
theorem d_X5_isHeap_69 : decode cX5_isHeap 69 = .ok (.iload_n 2, 1) := by decide +kernel
theorem d_X5_isHeap_70 : decode cX5_isHeap 70 = .ok (.aload_n 0, 1) := by decide +kernel
theorem d_X5_isHeap_71 : decode cX5_isHeap 71 = .ok (.getfield 29, 3) := by decide +kernel
theorem d_X5_isHeap_74 : decode cX5_isHeap 74 = .ok (.if_icmp .ge 34, 3) := by decide +kernel
theorem d_X5_isHeap_77 : decode cX5_isHeap 77 = .ok (.iload_n 1, 1) := by decide +kernel
theorem d_X5_isHeap_78 : decode cX5_isHeap 78 = .ok (.ifCond .eq 30, 3) := by decide +kernel
theorem d_X5_isHeap_81 : decode cX5_isHeap 81 = .ok (.aload_n 0, 1) := by decide +kernel
theorem d_X5_isHeap_82 : decode cX5_isHeap 82 = .ok (.aload_n 0, 1) := by decide +kernel
theorem d_X5_isHeap_83 : decode cX5_isHeap 83 = .ok (.getfield 20, 3) := by decide +kernel
theorem d_X5_isHeap_86 : decode cX5_isHeap 86 = .ok (.iload_n 2, 1) := by decide +kernel
theorem d_X5_isHeap_87 : decode cX5_isHeap 87 = .ok (.aaload, 1) := by decide +kernel
theorem d_X5_isHeap_88 : decode cX5_isHeap 88 = .ok (.iconst 2, 1) := by decide +kernel
theorem d_X5_isHeap_89 : decode cX5_isHeap 89 = .ok (.invokevirtual 58, 3) := by decide +kernel
theorem d_X5_isHeap_92 : decode cX5_isHeap 92 = .ok (.iconst 1, 1) := by decide +kernel
theorem d_X5_isHeap_93 : decode cX5_isHeap 93 = .ok (.if_icmp .gt 7, 3) := by decide +kernel
theorem d_X5_isHeap_96 : decode cX5_isHeap 96 = .ok (.iconst 1, 1) := by decide +kernel
theorem d_X5_isHeap_97 : decode cX5_isHeap 97 = .ok (.goto 4, 3) := by decide +kernel
theorem d_X5_isHeap_100 : decode cX5_isHeap 100 = .ok (.iconst 0, 1) := by decide +kernel
theorem d_X5_isHeap_101 : decode cX5_isHeap 101 = .ok (.istore_n 1, 1) := by decide +kernel
theorem d_X5_isHeap_102 : decode cX5_isHeap 102 = .ok (.iinc 2 1, 3) := by decide +kernel
theorem d_X5_isHeap_105 : decode cX5_isHeap 105 = .ok (.goto (-36), 3) := by decide +kernel
theorem d_X5_isHeap_108 : decode cX5_isHeap 108 = .ok (.iload_n 1, 1) := by decide +kernel
theorem d_X5_isHeap_109 : decode cX5_isHeap 109 = .ok (.ireturn, 1) := by decide +kernel
theorem b_X5_isHeap_0 {X : cX} {d : Nat} {μ : mM} {K : Option Value → mM → Prop} {r0 : Nat} (hw5_r0 : WF5 μ r0) (hc_manys : Ct X (Rm (d + 1)) mX5_manys [.ref r0] μ (fun r μ2 => G X (Rm (d + 2)) mX5_isHeap 4 [(0, .ref r0)] (r.toList ++ []) μ2 0 0 K)) : G X (Rm (d + 2)) mX5_isHeap 0 [(0, .ref r0)] [] μ 0 0 K := by
  refine G_aload_n d_X5_isHeap_0 rfl 0 rfl ?_
  refine G_callV (M' := mX5_manys) (R' := (Rm (d + 1))) (S := []) [] 5 (w5_kd hw5_r0) cok5 rfl ok_X5_manys ml_X5_62 pn_X5_manys (ru_Rm (by decide)) (Nat.le_of_ble_eq_true rfl) d_X5_isHeap_1 ?_
  exact hc_manys
theorem b_X5_isHeap_4 {X : cX} {d : Nat} {μ : mM} {K : Option Value → mM → Prop} {r0 : Nat} {v0 : Int32} (h : ¬ v0 = 0 → G X (Rm (d + 2)) mX5_isHeap 27 [(0, .ref r0)] [] μ 0 0 K) (hw5_r0 : WF5 μ r0) (hc_atsThatAre : v0 = 0 → Ct X (Rm (d + 1)) mX5_atsThatAre [.ref r0, .int 1] μ (fun r μ2 => G X (Rm (d + 2)) mX5_isHeap 12 [(0, .ref r0)] (r.toList ++ []) μ2 0 0 K)) : G X (Rm (d + 2)) mX5_isHeap 4 [(0, .ref r0)] [.int v0] μ 0 0 K := by
  refine G_if_ne (tgt := 27) d_X5_isHeap_4 rfl (fun c0 => ?_) (fun c0 => ?_)
  ·
    exact (h c0)
  ·
    refine G_aload_n d_X5_isHeap_7 rfl 0 rfl ?_
    refine G_iconst d_X5_isHeap_8 ic_1 ?_
    refine G_callV (M' := mX5_atsThatAre) (R' := (Rm (d + 1))) (S := []) [.int 1] 5 (w5_kd hw5_r0) cok5 rfl ok_X5_atsThatAre ml_X5_66 pn_X5_atsThatAre (ru_Rm (by decide)) (Nat.le_of_ble_eq_true rfl) d_X5_isHeap_9 ?_
    exact (hc_atsThatAre c0)
theorem b_X5_isHeap_12 {X : cX} {d : Nat} {μ : mM} {K : Option Value → mM → Prop} {r0 : Nat} {v0 : Int32} (h : ¬ v0 = 0 → G X (Rm (d + 2)) mX5_isHeap 27 [(0, .ref r0)] [] μ 0 0 K) (hw5_r0 : WF5 μ r0) (hc_nextsThatAre : v0 = 0 → Ct X (Rm (d + 1)) mX5_nextsThatAre [.ref r0, .int 1] μ (fun r μ2 => G X (Rm (d + 2)) mX5_isHeap 20 [(0, .ref r0)] (r.toList ++ []) μ2 0 0 K)) : G X (Rm (d + 2)) mX5_isHeap 12 [(0, .ref r0)] [.int v0] μ 0 0 K := by
  refine G_if_ne (tgt := 27) d_X5_isHeap_12 rfl (fun c0 => ?_) (fun c0 => ?_)
  ·
    exact (h c0)
  ·
    refine G_aload_n d_X5_isHeap_15 rfl 0 rfl ?_
    refine G_iconst d_X5_isHeap_16 ic_1 ?_
    refine G_callV (M' := mX5_nextsThatAre) (R' := (Rm (d + 1))) (S := []) [.int 1] 5 (w5_kd hw5_r0) cok5 rfl ok_X5_nextsThatAre ml_X5_70 pn_X5_nextsThatAre (ru_Rm (by decide)) (Nat.le_of_ble_eq_true rfl) d_X5_isHeap_17 ?_
    exact (hc_nextsThatAre c0)
theorem b_X5_isHeap_20 {X : cX} {d : Nat} {μ : mM} {K : Option Value → mM → Prop} {r0 : Nat} {v0 : Int32} (h : ¬ v0 = 0 → G X (Rm (d + 2)) mX5_isHeap 27 [(0, .ref r0)] [] μ 0 0 K) (h_2 : v0 = 0 → G X (Rm (d + 2)) mX5_isHeap 28 [(0, .ref r0)] [.int 1] μ 0 0 K) : G X (Rm (d + 2)) mX5_isHeap 20 [(0, .ref r0)] [.int v0] μ 0 0 K := by
  refine G_if_ne (tgt := 27) d_X5_isHeap_20 rfl (fun c0 => ?_) (fun c0 => ?_)
  ·
    exact (h c0)
  ·
    refine G_iconst d_X5_isHeap_23 ic_1 ?_
    refine G_goto (tgt := 28) d_X5_isHeap_24 rfl ?_
    exact (h_2 c0)
theorem b_X5_isHeap_27 {X : cX} {d : Nat} {μ : mM} {K : Option Value → mM → Prop} {r0 : Nat} (h : G X (Rm (d + 2)) mX5_isHeap 28 [(0, .ref r0)] [.int 0] μ 0 0 K) : G X (Rm (d + 2)) mX5_isHeap 27 [(0, .ref r0)] [] μ 0 0 K := by
  refine G_iconst d_X5_isHeap_27 ic_0 ?_
  exact h
theorem b_X5_isHeap_28 {X : cX} {d : Nat} {μ : mM} {K : Option Value → mM → Prop} {r0 : Nat} {v0 : Int32} (h : G X (Rm (d + 2)) mX5_isHeap 31 [(0, .ref r0), (1, .int v0), (2, .int (nI 0))] [] μ 0 0 K) : G X (Rm (d + 2)) mX5_isHeap 28 [(0, .ref r0)] [.int v0] μ 0 0 K := by
  refine G_istore_n (L' := [(1, .int v0), (0, .ref r0)]) d_X5_isHeap_28 rfl (by decide) rfl ?_
  refine G_iconst d_X5_isHeap_29 ic_0 ?_
  refine G_istore_n (L' := [(2, .int (nI 0)), (1, .int v0), (0, .ref r0)]) d_X5_isHeap_30 rfl (by decide) rfl ?_
  refine G_sub (L' := [(0, .ref r0), (1, .int v0), (2, .int (nI 0))]) [2, 1, 0] rfl ?_
  exact h
theorem b_X5_isHeap_31 {X : cX} {d : Nat} {μ : mM} {K : Option Value → mM → Prop} {r0 : Nat} {l1 : Int32} {i2 : Nat} (h : (3 : Int32) ≤ (nI i2) → G X (Rm (d + 2)) mX5_isHeap 67 [(0, .ref r0), (1, .int l1)] [] μ 0 0 K) (h_2 : ¬ (3 : Int32) ≤ (nI i2) → l1 = 0 → G X (Rm (d + 2)) mX5_isHeap 67 [(0, .ref r0), (1, .int l1)] [] μ 0 0 K) (hw5_r0 : WF5 μ r0) (hb : ¬ (3 : Int32) ≤ (nI i2) → ¬ l1 = 0 → i2 < 3) (hc_cellsThatAre : ¬ (3 : Int32) ≤ (nI i2) → ¬ l1 = 0 → Ct X (Rm (d + 1)) mX5_cellsThatAre [.ref r0, .ref (r0 + 3 + i2), .int 2] μ (fun r μ2 => G X (Rm (d + 2)) mX5_isHeap 51 [(0, .ref r0), (2, .int (nI i2))] (r.toList ++ []) μ2 0 0 K)) : G X (Rm (d + 2)) mX5_isHeap 31 [(0, .ref r0), (1, .int l1), (2, .int (nI i2))] [] μ 0 0 K := by
  refine G_iload_n d_X5_isHeap_31 rfl 2 rfl ?_
  refine G_iconst d_X5_isHeap_32 ic_3 ?_
  refine G_icmp_ge (tgt := 67) d_X5_isHeap_33 rfl (fun c0 => ?_) (fun c0 => ?_)
  ·
    refine G_sub (L' := [(0, .ref r0), (1, .int l1)]) [0, 1] rfl ?_
    exact (h c0)
  ·
    refine G_iload_n d_X5_isHeap_36 rfl 1 rfl ?_
    refine G_if_eq (tgt := 67) d_X5_isHeap_37 rfl (fun c1 => ?_) (fun c1 => ?_)
    ·
      refine G_sub (L' := [(0, .ref r0), (1, .int l1)]) [0, 1] rfl ?_
      exact (h_2 c0 c1)
    ·
      refine G_aload_n d_X5_isHeap_40 rfl 0 rfl ?_
      refine G_aload_n d_X5_isHeap_41 rfl 0 rfl ?_
      refine G_getR (r := r0 + 2) 5 2 (w5_kd hw5_r0) (w5_f2 hw5_r0) cok5 (by decide) rfl fl_X5_17 d_X5_isHeap_42 ?_
      refine G_iload_n d_X5_isHeap_45 rfl 2 rfl ?_
      refine G_aaldA (r := r0 + 3 + i2) i2 (w5_k2 hw5_r0) rfl (hb c0 c1) (w5_r2 hw5_r0 i2 (hb c0 c1)) d_X5_isHeap_46 ?_
      refine G_iconst d_X5_isHeap_47 ic_2 ?_
      refine G_sub (L' := [(0, .ref r0), (2, .int (nI i2))]) [0, 2] rfl ?_
      refine G_callV (M' := mX5_cellsThatAre) (R' := (Rm (d + 1))) (S := []) [.ref (r0 + 3 + i2), .int 2] 5 (w5_kd hw5_r0) cok5 rfl ok_X5_cellsThatAre ml_X5_58 pn_X5_cellsThatAre (ru_Rm (by decide)) (Nat.le_of_ble_eq_true rfl) d_X5_isHeap_48 ?_
      exact (hc_cellsThatAre c0 c1)
theorem b_X5_isHeap_51 {X : cX} {d : Nat} {μ : mM} {K : Option Value → mM → Prop} {r0 : Nat} {l2 : Int32} {v0 : Int32} (h : (1 : Int32) < v0 → G X (Rm (d + 2)) mX5_isHeap 60 [(0, .ref r0), (2, .int l2)] [.int 0] μ 0 0 K) (h_2 : ¬ (1 : Int32) < v0 → G X (Rm (d + 2)) mX5_isHeap 60 [(0, .ref r0), (2, .int l2)] [.int 1] μ 0 0 K) : G X (Rm (d + 2)) mX5_isHeap 51 [(0, .ref r0), (2, .int l2)] [.int v0] μ 0 0 K := by
  refine G_iconst d_X5_isHeap_51 ic_1 ?_
  refine G_icmp_gt (tgt := 59) d_X5_isHeap_52 rfl (fun c0 => ?_) (fun c0 => ?_)
  ·
    refine G_iconst d_X5_isHeap_59 ic_0 ?_
    exact (h c0)
  ·
    refine G_iconst d_X5_isHeap_55 ic_1 ?_
    refine G_goto (tgt := 60) d_X5_isHeap_56 rfl ?_
    exact (h_2 c0)
theorem b_X5_isHeap_60 {X : cX} {d : Nat} {μ : mM} {K : Option Value → mM → Prop} {r0 : Nat} {i2 : Nat} {v0 : Int32} (h : G X (Rm (d + 2)) mX5_isHeap 31 [(0, .ref r0), (1, .int v0), (2, .int (nI (i2 + 1)))] [] μ 0 0 K) : G X (Rm (d + 2)) mX5_isHeap 60 [(0, .ref r0), (2, .int (nI i2))] [.int v0] μ 0 0 K := by
  refine G_istore_n (L' := [(1, .int v0), (0, .ref r0), (2, .int (nI i2))]) d_X5_isHeap_60 rfl (by decide) rfl ?_
  refine G_iinc (L' := [(2, .int (nI (i2 + 1))), (1, .int v0), (0, .ref r0)]) d_X5_isHeap_61 2 rfl (inc1 i2) (by decide) rfl ?_
  refine G_goto (tgt := 31) d_X5_isHeap_64 rfl ?_
  refine G_sub (L' := [(0, .ref r0), (1, .int v0), (2, .int (nI (i2 + 1)))]) [2, 1, 0] rfl ?_
  exact h
theorem b_X5_isHeap_67 {X : cX} {d : Nat} {μ : mM} {K : Option Value → mM → Prop} {r0 : Nat} {l1 : Int32} (h : G X (Rm (d + 2)) mX5_isHeap 69 [(0, .ref r0), (1, .int l1), (2, .int (nI 0))] [] μ 0 0 K) : G X (Rm (d + 2)) mX5_isHeap 67 [(0, .ref r0), (1, .int l1)] [] μ 0 0 K := by
  refine G_iconst d_X5_isHeap_67 ic_0 ?_
  refine G_istore_n (L' := [(2, .int (nI 0)), (0, .ref r0), (1, .int l1)]) d_X5_isHeap_68 rfl (by decide) rfl ?_
  refine G_sub (L' := [(0, .ref r0), (1, .int l1), (2, .int (nI 0))]) [1, 2, 0] rfl ?_
  exact h
theorem b_X5_isHeap_69 {X : cX} {d : Nat} {μ : mM} {K : Option Value → mM → Prop} {r0 : Nat} {l1 : Int32} {i2 : Nat} (hw5_r0 : WF5 μ r0) (hK : (iv μ r0 0) ≤ (nI i2) → K (some (.int l1)) μ) (hz : (iv μ r0 0) ≤ (nI i2) → l1 = 0 ∨ l1 = 1) (hK_2 : ¬ (iv μ r0 0) ≤ (nI i2) → l1 = 0 → K (some (.int l1)) μ) (hz_2 : ¬ (iv μ r0 0) ≤ (nI i2) → l1 = 0 → l1 = 0 ∨ l1 = 1) (hb : ¬ (iv μ r0 0) ≤ (nI i2) → ¬ l1 = 0 → i2 < 6) (hc_cellsThatAre : ¬ (iv μ r0 0) ≤ (nI i2) → ¬ l1 = 0 → Ct X (Rm (d + 1)) mX5_cellsThatAre [.ref r0, .ref (r0 + 7 + i2), .int 2] μ (fun r μ2 => G X (Rm (d + 2)) mX5_isHeap 92 [(0, .ref r0), (2, .int (nI i2))] (r.toList ++ []) μ2 0 0 K)) : G X (Rm (d + 2)) mX5_isHeap 69 [(0, .ref r0), (1, .int l1), (2, .int (nI i2))] [] μ 0 0 K := by
  refine G_iload_n d_X5_isHeap_69 rfl 2 rfl ?_
  refine G_aload_n d_X5_isHeap_70 rfl 0 rfl ?_
  refine G_getI 5 0 (w5_kd hw5_r0) cok5 (by decide) rfl fl_X5_29 d_X5_isHeap_71 ?_
  refine G_icmp_ge (tgt := 108) d_X5_isHeap_74 rfl (fun c0 => ?_) (fun c0 => ?_)
  ·
    refine G_iload_n d_X5_isHeap_108 rfl 1 rfl ?_
    exact G_zret rfl (nar_b (hz c0)) rfl rfl d_X5_isHeap_109 (hK c0)
  ·
    refine G_iload_n d_X5_isHeap_77 rfl 1 rfl ?_
    refine G_if_eq (tgt := 108) d_X5_isHeap_78 rfl (fun c1 => ?_) (fun c1 => ?_)
    ·
      refine G_iload_n d_X5_isHeap_108 rfl 1 rfl ?_
      exact G_zret rfl (nar_b (hz_2 c0 c1)) rfl rfl d_X5_isHeap_109 (hK_2 c0 c1)
    ·
      refine G_aload_n d_X5_isHeap_81 rfl 0 rfl ?_
      refine G_aload_n d_X5_isHeap_82 rfl 0 rfl ?_
      refine G_getR (r := r0 + 6) 5 3 (w5_kd hw5_r0) (w5_f3 hw5_r0) cok5 (by decide) rfl fl_X5_20 d_X5_isHeap_83 ?_
      refine G_iload_n d_X5_isHeap_86 rfl 2 rfl ?_
      refine G_aaldA (r := r0 + 7 + i2) i2 (w5_k3 hw5_r0) rfl (hb c0 c1) (w5_r3 hw5_r0 i2 (hb c0 c1)) d_X5_isHeap_87 ?_
      refine G_iconst d_X5_isHeap_88 ic_2 ?_
      refine G_sub (L' := [(0, .ref r0), (2, .int (nI i2))]) [0, 2] rfl ?_
      refine G_callV (M' := mX5_cellsThatAre) (R' := (Rm (d + 1))) (S := []) [.ref (r0 + 7 + i2), .int 2] 5 (w5_kd hw5_r0) cok5 rfl ok_X5_cellsThatAre ml_X5_58 pn_X5_cellsThatAre (ru_Rm (by decide)) (Nat.le_of_ble_eq_true rfl) d_X5_isHeap_89 ?_
      exact (hc_cellsThatAre c0 c1)
theorem b_X5_isHeap_92 {X : cX} {d : Nat} {μ : mM} {K : Option Value → mM → Prop} {r0 : Nat} {l2 : Int32} {v0 : Int32} (h : (1 : Int32) < v0 → G X (Rm (d + 2)) mX5_isHeap 101 [(0, .ref r0), (2, .int l2)] [.int 0] μ 0 0 K) (h_2 : ¬ (1 : Int32) < v0 → G X (Rm (d + 2)) mX5_isHeap 101 [(0, .ref r0), (2, .int l2)] [.int 1] μ 0 0 K) : G X (Rm (d + 2)) mX5_isHeap 92 [(0, .ref r0), (2, .int l2)] [.int v0] μ 0 0 K := by
  refine G_iconst d_X5_isHeap_92 ic_1 ?_
  refine G_icmp_gt (tgt := 100) d_X5_isHeap_93 rfl (fun c0 => ?_) (fun c0 => ?_)
  ·
    refine G_iconst d_X5_isHeap_100 ic_0 ?_
    exact (h c0)
  ·
    refine G_iconst d_X5_isHeap_96 ic_1 ?_
    refine G_goto (tgt := 101) d_X5_isHeap_97 rfl ?_
    exact (h_2 c0)
theorem b_X5_isHeap_101 {X : cX} {d : Nat} {μ : mM} {K : Option Value → mM → Prop} {r0 : Nat} {i2 : Nat} {v0 : Int32} (h : G X (Rm (d + 2)) mX5_isHeap 69 [(0, .ref r0), (1, .int v0), (2, .int (nI (i2 + 1)))] [] μ 0 0 K) : G X (Rm (d + 2)) mX5_isHeap 101 [(0, .ref r0), (2, .int (nI i2))] [.int v0] μ 0 0 K := by
  refine G_istore_n (L' := [(1, .int v0), (0, .ref r0), (2, .int (nI i2))]) d_X5_isHeap_101 rfl (by decide) rfl ?_
  refine G_iinc (L' := [(2, .int (nI (i2 + 1))), (1, .int v0), (0, .ref r0)]) d_X5_isHeap_102 2 rfl (inc1 i2) (by decide) rfl ?_
  refine G_goto (tgt := 69) d_X5_isHeap_105 rfl ?_
  refine G_sub (L' := [(0, .ref r0), (1, .int v0), (2, .int (nI (i2 + 1)))]) [2, 1, 0] rfl ?_
  exact h
theorem d_X6_makeSingle_0 : decode cX6_makeSingle 0 = .ok (.aload_n 0, 1) := by decide +kernel
theorem d_X6_makeSingle_1 : decode cX6_makeSingle 1 = .ok (.getfield 12, 3) := by decide +kernel
theorem d_X6_makeSingle_4 : decode cX6_makeSingle 4 = .ok (.getfield 54, 3) := by decide +kernel
theorem d_X6_makeSingle_7 : decode cX6_makeSingle 7 = .ok (.iload_n 1, 1) := by decide +kernel
theorem d_X6_makeSingle_8 : decode cX6_makeSingle 8 = .ok (.baload, 1) := by decide +kernel
theorem d_X6_makeSingle_9 : decode cX6_makeSingle 9 = .ok (.ifCond .eq 23, 3) := by decide +kernel
theorem d_X6_makeSingle_12 : decode cX6_makeSingle 12 = .ok (.aload_n 0, 1) := by decide +kernel
theorem d_X6_makeSingle_13 : decode cX6_makeSingle 13 = .ok (.getfield 12, 3) := by decide +kernel
theorem d_X6_makeSingle_16 : decode cX6_makeSingle 16 = .ok (.getfield 54, 3) := by decide +kernel
theorem d_X6_makeSingle_19 : decode cX6_makeSingle 19 = .ok (.iload_n 1, 1) := by decide +kernel
theorem d_X6_makeSingle_20 : decode cX6_makeSingle 20 = .ok (.iconst 0, 1) := by decide +kernel
theorem d_X6_makeSingle_21 : decode cX6_makeSingle 21 = .ok (.bastore, 1) := by decide +kernel
theorem d_X6_makeSingle_22 : decode cX6_makeSingle 22 = .ok (.aload_n 0, 1) := by decide +kernel
theorem d_X6_makeSingle_23 : decode cX6_makeSingle 23 = .ok (.dup, 1) := by decide +kernel
theorem d_X6_makeSingle_24 : decode cX6_makeSingle 24 = .ok (.getfield 22, 3) := by decide +kernel
theorem d_X6_makeSingle_27 : decode cX6_makeSingle 27 = .ok (.iconst 1, 1) := by decide +kernel
theorem d_X6_makeSingle_28 : decode cX6_makeSingle 28 = .ok (.iadd, 1) := by decide +kernel
theorem d_X6_makeSingle_29 : decode cX6_makeSingle 29 = .ok (.putfield 22, 3) := by decide +kernel
theorem d_X6_makeSingle_32 : decode cX6_makeSingle 32 = .ok (.return_, 1) := by decide +kernel
theorem b_X6_makeSingle_0 {X : cX} {d : Nat} {μ : mM} {K : Option Value → mM → Prop} {r0 : Nat} {i1 : Nat} (hw6_r0 : WF6 μ r0) (hw5_r01 : WF5 μ (r0 + 1)) (hb : i1 < 6) (hK : (iv μ (r0 + 1 + 1) i1) = 0 → K none μ) (hb_2 : ¬ (iv μ (r0 + 1 + 1) i1) = 0 → i1 < 6) (hK_2 : ¬ (iv μ (r0 + 1 + 1) i1) = 0 → K none (wi (wi μ (r0 + 1 + 1) i1 0) r0 1 ((iv (wi μ (r0 + 1 + 1) i1 0) r0 1) + 1))) : G X (Rm d) mX6_makeSingle 0 [(0, .ref r0), (1, .int (nI i1))] [] μ 0 0 K := by
  refine G_aload_n d_X6_makeSingle_0 rfl 0 rfl ?_
  refine G_getR (r := r0 + 1) 6 0 (w6_kd hw6_r0) (w6_f0 hw6_r0) cok6 (by decide) rfl fl_X6_12 d_X6_makeSingle_1 ?_
  refine G_getR (r := r0 + 1 + 1) 5 1 (w5_kd hw5_r01) (w5_f1 hw5_r01) cok5 (by decide) rfl fl_X6_54 d_X6_makeSingle_4 ?_
  refine G_iload_n d_X6_makeSingle_7 rfl 1 rfl ?_
  refine G_zald i1 (w5_k1 hw5_r01) rfl hb d_X6_makeSingle_8 ?_
  refine G_if_eq (tgt := 32) d_X6_makeSingle_9 rfl (fun c0 => ?_) (fun c0 => ?_)
  ·
    exact G_vret rfl rfl rfl d_X6_makeSingle_32 (hK c0)
  ·
    refine G_aload_n d_X6_makeSingle_12 rfl 0 rfl ?_
    refine G_getR (r := r0 + 1) 6 0 (w6_kd hw6_r0) (w6_f0 hw6_r0) cok6 (by decide) rfl fl_X6_12 d_X6_makeSingle_13 ?_
    refine G_getR (r := r0 + 1 + 1) 5 1 (w5_kd hw5_r01) (w5_f1 hw5_r01) cok5 (by decide) rfl fl_X6_54 d_X6_makeSingle_16 ?_
    refine G_iload_n d_X6_makeSingle_19 rfl 1 rfl ?_
    refine G_iconst d_X6_makeSingle_20 ic_0 ?_
    refine G_zast (v := 0) i1 (w5_k1 hw5_r01) rfl (hb_2 c0) rfl d_X6_makeSingle_21 ?_
    refine G_aload_n d_X6_makeSingle_22 rfl 0 rfl ?_
    refine G_dup d_X6_makeSingle_23 rfl ?_
    refine G_getI 6 1 (w6_kd hw6_r0) cok6 (by decide) rfl fl_X6_22 d_X6_makeSingle_24 ?_
    refine G_iconst d_X6_makeSingle_27 ic_1 ?_
    refine G_iadd d_X6_makeSingle_28 ?_
    refine G_putI 6 1 (w6_kd hw6_r0) rfl rfl cok6 (by decide) rfl (Or.inl rfl) fl_X6_22 d_X6_makeSingle_29 ?_
    exact G_vret rfl rfl rfl d_X6_makeSingle_32 (hK_2 c0)
theorem d_X6_clearOthers_0 : decode cX6_clearOthers 0 = .ok (.iconst 0, 1) := by decide +kernel
theorem d_X6_clearOthers_1 : decode cX6_clearOthers 1 = .ok (.istore_n 3, 1) := by decide +kernel
theorem d_X6_clearOthers_2 : decode cX6_clearOthers 2 = .ok (.iload_n 3, 1) := by decide +kernel
theorem d_X6_clearOthers_3 : decode cX6_clearOthers 3 = .ok (.aload_n 0, 1) := by decide +kernel
theorem d_X6_clearOthers_4 : decode cX6_clearOthers 4 = .ok (.getfield 12, 3) := by decide +kernel
theorem d_X6_clearOthers_7 : decode cX6_clearOthers 7 = .ok (.getfield 36, 3) := by decide +kernel
theorem d_X6_clearOthers_10 : decode cX6_clearOthers 10 = .ok (.if_icmp .ge 55, 3) := by decide +kernel
theorem d_X6_clearOthers_13 : decode cX6_clearOthers 13 = .ok (.iload_n 3, 1) := by decide +kernel
theorem d_X6_clearOthers_14 : decode cX6_clearOthers 14 = .ok (.iload_n 2, 1) := by decide +kernel
theorem d_X6_clearOthers_15 : decode cX6_clearOthers 15 = .ok (.if_icmp .eq 18, 3) := by decide +kernel
theorem d_X6_clearOthers_18 : decode cX6_clearOthers 18 = .ok (.aload_n 1, 1) := by decide +kernel
theorem d_X6_clearOthers_19 : decode cX6_clearOthers 19 = .ok (.iload_n 3, 1) := by decide +kernel
theorem d_X6_clearOthers_20 : decode cX6_clearOthers 20 = .ok (.iaload, 1) := by decide +kernel
theorem d_X6_clearOthers_21 : decode cX6_clearOthers 21 = .ok (.iconst 2, 1) := by decide +kernel
theorem d_X6_clearOthers_22 : decode cX6_clearOthers 22 = .ok (.if_icmp .ne 11, 3) := by decide +kernel
theorem d_X6_clearOthers_25 : decode cX6_clearOthers 25 = .ok (.aload_n 0, 1) := by decide +kernel
theorem d_X6_clearOthers_26 : decode cX6_clearOthers 26 = .ok (.iconst 1, 1) := by decide +kernel
theorem d_X6_clearOthers_27 : decode cX6_clearOthers 27 = .ok (.putfield 26, 3) := by decide +kernel
theorem d_X6_clearOthers_30 : decode cX6_clearOthers 30 = .ok (.goto 29, 3) := by decide +kernel
theorem d_X6_clearOthers_33 : decode cX6_clearOthers 33 = .ok (.iload_n 3, 1) := by decide +kernel
theorem d_X6_clearOthers_34 : decode cX6_clearOthers 34 = .ok (.iload_n 2, 1) := by decide +kernel
theorem d_X6_clearOthers_35 : decode cX6_clearOthers 35 = .ok (.if_icmp .eq 24, 3) := by decide +kernel
theorem d_X6_clearOthers_38 : decode cX6_clearOthers 38 = .ok (.aload_n 1, 1) := by decide +kernel
theorem d_X6_clearOthers_39 : decode cX6_clearOthers 39 = .ok (.iload_n 3, 1) := by decide +kernel
theorem d_X6_clearOthers_40 : decode cX6_clearOthers 40 = .ok (.iaload, 1) := by decide +kernel
theorem d_X6_clearOthers_41 : decode cX6_clearOthers 41 = .ok (.iconst 1, 1) := by decide +kernel
theorem d_X6_clearOthers_42 : decode cX6_clearOthers 42 = .ok (.if_icmp .ne 17, 3) := by decide +kernel
theorem d_X6_clearOthers_45 : decode cX6_clearOthers 45 = .ok (.aload_n 1, 1) := by decide +kernel
theorem d_X6_clearOthers_46 : decode cX6_clearOthers 46 = .ok (.iload_n 3, 1) := by decide +kernel
theorem d_X6_clearOthers_47 : decode cX6_clearOthers 47 = .ok (.iconst 0, 1) := by decide +kernel
theorem d_X6_clearOthers_48 : decode cX6_clearOthers 48 = .ok (.iastore, 1) := by decide +kernel
theorem d_X6_clearOthers_49 : decode cX6_clearOthers 49 = .ok (.aload_n 0, 1) := by decide +kernel
theorem d_X6_clearOthers_50 : decode cX6_clearOthers 50 = .ok (.dup, 1) := by decide +kernel
theorem d_X6_clearOthers_51 : decode cX6_clearOthers 51 = .ok (.getfield 22, 3) := by decide +kernel
theorem d_X6_clearOthers_54 : decode cX6_clearOthers 54 = .ok (.iconst 1, 1) := by decide +kernel
theorem d_X6_clearOthers_55 : decode cX6_clearOthers 55 = .ok (.iadd, 1) := by decide +kernel
theorem d_X6_clearOthers_56 : decode cX6_clearOthers 56 = .ok (.putfield 22, 3) := by decide +kernel
theorem d_X6_clearOthers_59 : decode cX6_clearOthers 59 = .ok (.iinc 3 1, 3) := by decide +kernel
theorem d_X6_clearOthers_62 : decode cX6_clearOthers 62 = .ok (.goto (-60), 3) := by decide +kernel
theorem d_X6_clearOthers_65 : decode cX6_clearOthers 65 = .ok (.return_, 1) := by decide +kernel
theorem b_X6_clearOthers_0 {X : cX} {d : Nat} {μ : mM} {K : Option Value → mM → Prop} {r0 : Nat} {r1 : Nat} {l2 : Int32} (h : G X (Rm d) mX6_clearOthers 2 [(0, .ref r0), (1, .ref r1), (2, .int l2), (3, .int (nI 0))] [] μ 0 0 K) : G X (Rm d) mX6_clearOthers 0 [(0, .ref r0), (1, .ref r1), (2, .int l2)] [] μ 0 0 K := by
  refine G_iconst d_X6_clearOthers_0 ic_0 ?_
  refine G_istore_n (L' := [(3, .int (nI 0)), (0, .ref r0), (1, .ref r1), (2, .int l2)]) d_X6_clearOthers_1 rfl (by decide) rfl ?_
  refine G_sub (L' := [(0, .ref r0), (1, .ref r1), (2, .int l2), (3, .int (nI 0))]) [1, 2, 3, 0] rfl ?_
  exact h
theorem b_X6_clearOthers_2 {X : cX} {d : Nat} {μ : mM} {K : Option Value → mM → Prop} {r0 : Nat} {r1 : Nat} {l2 : Int32} {i3 : Nat} {n0 : Nat} (hw6_r0 : WF6 μ r0) (hw5_r01 : WF5 μ (r0 + 1)) (hK : (iv μ (r0 + 1) 0) ≤ (nI i3) → K none μ) (h : ¬ (iv μ (r0 + 1) 0) ≤ (nI i3) → (nI i3) = l2 → G X (Rm d) mX6_clearOthers 33 [(0, .ref r0), (1, .ref r1), (2, .int l2), (3, .int (nI i3))] [] μ 0 0 K) (hk_r1 : kd μ r1 = (1, n0)) (hb : ¬ (iv μ (r0 + 1) 0) ≤ (nI i3) → ¬ (nI i3) = l2 → i3 < n0) (h_2 : ¬ (iv μ (r0 + 1) 0) ≤ (nI i3) → ¬ (nI i3) = l2 → ¬ (iv μ r1 i3) = (2 : Int32) → G X (Rm d) mX6_clearOthers 33 [(0, .ref r0), (1, .ref r1), (2, .int l2), (3, .int (nI i3))] [] μ 0 0 K) (h_3 : ¬ (iv μ (r0 + 1) 0) ≤ (nI i3) → ¬ (nI i3) = l2 → (iv μ r1 i3) = (2 : Int32) → G X (Rm d) mX6_clearOthers 59 [(0, .ref r0), (1, .ref r1), (2, .int l2), (3, .int (nI i3))] [] (wi μ r0 2 1) 0 0 K) : G X (Rm d) mX6_clearOthers 2 [(0, .ref r0), (1, .ref r1), (2, .int l2), (3, .int (nI i3))] [] μ 0 0 K := by
  refine G_iload_n d_X6_clearOthers_2 rfl 3 rfl ?_
  refine G_aload_n d_X6_clearOthers_3 rfl 0 rfl ?_
  refine G_getR (r := r0 + 1) 6 0 (w6_kd hw6_r0) (w6_f0 hw6_r0) cok6 (by decide) rfl fl_X6_12 d_X6_clearOthers_4 ?_
  refine G_getI 5 0 (w5_kd hw5_r01) cok5 (by decide) rfl fl_X6_36 d_X6_clearOthers_7 ?_
  refine G_icmp_ge (tgt := 65) d_X6_clearOthers_10 rfl (fun c0 => ?_) (fun c0 => ?_)
  ·
    exact G_vret rfl rfl rfl d_X6_clearOthers_65 (hK c0)
  ·
    refine G_iload_n d_X6_clearOthers_13 rfl 3 rfl ?_
    refine G_iload_n d_X6_clearOthers_14 rfl 2 rfl ?_
    refine G_icmp_eq (tgt := 33) d_X6_clearOthers_15 rfl (fun c1 => ?_) (fun c1 => ?_)
    ·
      exact (h c0 c1)
    ·
      refine G_aload_n d_X6_clearOthers_18 rfl 1 rfl ?_
      refine G_iload_n d_X6_clearOthers_19 rfl 3 rfl ?_
      refine G_iald i3 hk_r1 rfl (hb c0 c1) d_X6_clearOthers_20 ?_
      refine G_iconst d_X6_clearOthers_21 ic_2 ?_
      refine G_icmp_ne (tgt := 33) d_X6_clearOthers_22 rfl (fun c2 => ?_) (fun c2 => ?_)
      ·
        exact (h_2 c0 c1 c2)
      ·
        refine G_aload_n d_X6_clearOthers_25 rfl 0 rfl ?_
        refine G_iconst d_X6_clearOthers_26 ic_1 ?_
        refine G_putI 6 2 (w6_kd hw6_r0) rfl rfl cok6 (by decide) rfl (Or.inl rfl) fl_X6_26 d_X6_clearOthers_27 ?_
        refine G_goto (tgt := 59) d_X6_clearOthers_30 rfl ?_
        exact (h_3 c0 c1 c2)
theorem b_X6_clearOthers_33 {X : cX} {d : Nat} {μ : mM} {K : Option Value → mM → Prop} {r0 : Nat} {r1 : Nat} {l2 : Int32} {i3 : Nat} {n0 : Nat} (h : (nI i3) = l2 → G X (Rm d) mX6_clearOthers 59 [(0, .ref r0), (1, .ref r1), (2, .int l2), (3, .int (nI i3))] [] μ 0 0 K) (hk_r1 : kd μ r1 = (1, n0)) (hb : ¬ (nI i3) = l2 → i3 < n0) (h_2 : ¬ (nI i3) = l2 → ¬ (iv μ r1 i3) = (1 : Int32) → G X (Rm d) mX6_clearOthers 59 [(0, .ref r0), (1, .ref r1), (2, .int l2), (3, .int (nI i3))] [] μ 0 0 K) (hb_2 : ¬ (nI i3) = l2 → (iv μ r1 i3) = (1 : Int32) → i3 < n0) (hw6_r0 : WF6 μ r0) (h_3 : ¬ (nI i3) = l2 → (iv μ r1 i3) = (1 : Int32) → G X (Rm d) mX6_clearOthers 59 [(0, .ref r0), (1, .ref r1), (2, .int l2), (3, .int (nI i3))] [] (wi (wi μ r1 i3 0) r0 1 ((iv (wi μ r1 i3 0) r0 1) + 1)) 0 0 K) : G X (Rm d) mX6_clearOthers 33 [(0, .ref r0), (1, .ref r1), (2, .int l2), (3, .int (nI i3))] [] μ 0 0 K := by
  refine G_iload_n d_X6_clearOthers_33 rfl 3 rfl ?_
  refine G_iload_n d_X6_clearOthers_34 rfl 2 rfl ?_
  refine G_icmp_eq (tgt := 59) d_X6_clearOthers_35 rfl (fun c0 => ?_) (fun c0 => ?_)
  ·
    exact (h c0)
  ·
    refine G_aload_n d_X6_clearOthers_38 rfl 1 rfl ?_
    refine G_iload_n d_X6_clearOthers_39 rfl 3 rfl ?_
    refine G_iald i3 hk_r1 rfl (hb c0) d_X6_clearOthers_40 ?_
    refine G_iconst d_X6_clearOthers_41 ic_1 ?_
    refine G_icmp_ne (tgt := 59) d_X6_clearOthers_42 rfl (fun c1 => ?_) (fun c1 => ?_)
    ·
      exact (h_2 c0 c1)
    ·
      refine G_aload_n d_X6_clearOthers_45 rfl 1 rfl ?_
      refine G_iload_n d_X6_clearOthers_46 rfl 3 rfl ?_
      refine G_iconst d_X6_clearOthers_47 ic_0 ?_
      refine G_iast i3 hk_r1 rfl (hb_2 c0 c1) d_X6_clearOthers_48 ?_
      refine G_aload_n d_X6_clearOthers_49 rfl 0 rfl ?_
      refine G_dup d_X6_clearOthers_50 rfl ?_
      refine G_getI 6 1 (w6_kd hw6_r0) cok6 (by decide) rfl fl_X6_22 d_X6_clearOthers_51 ?_
      refine G_iconst d_X6_clearOthers_54 ic_1 ?_
      refine G_iadd d_X6_clearOthers_55 ?_
      refine G_putI 6 1 (w6_kd hw6_r0) rfl rfl cok6 (by decide) rfl (Or.inl rfl) fl_X6_22 d_X6_clearOthers_56 ?_
      exact (h_3 c0 c1)
theorem b_X6_clearOthers_59 {X : cX} {d : Nat} {μ : mM} {K : Option Value → mM → Prop} {r0 : Nat} {r1 : Nat} {l2 : Int32} {i3 : Nat} (h : G X (Rm d) mX6_clearOthers 2 [(0, .ref r0), (1, .ref r1), (2, .int l2), (3, .int (nI (i3 + 1)))] [] μ 0 0 K) : G X (Rm d) mX6_clearOthers 59 [(0, .ref r0), (1, .ref r1), (2, .int l2), (3, .int (nI i3))] [] μ 0 0 K := by
  refine G_iinc (L' := [(3, .int (nI (i3 + 1))), (0, .ref r0), (1, .ref r1), (2, .int l2)]) d_X6_clearOthers_59 3 rfl (inc1 i3) (by decide) rfl ?_
  refine G_goto (tgt := 2) d_X6_clearOthers_62 rfl ?_
  refine G_sub (L' := [(0, .ref r0), (1, .ref r1), (2, .int l2), (3, .int (nI (i3 + 1)))]) [1, 2, 3, 0] rfl ?_
  exact h
theorem d_X6_drawFromAts_0 : decode cX6_drawFromAts 0 = .ok (.iconst 0, 1) := by decide +kernel
theorem d_X6_drawFromAts_1 : decode cX6_drawFromAts 1 = .ok (.istore_n 1, 1) := by decide +kernel
theorem d_X6_drawFromAts_2 : decode cX6_drawFromAts 2 = .ok (.iload_n 1, 1) := by decide +kernel
theorem d_X6_drawFromAts_3 : decode cX6_drawFromAts 3 = .ok (.iconst 3, 1) := by decide +kernel
theorem d_X6_drawFromAts_4 : decode cX6_drawFromAts 4 = .ok (.if_icmp .ge 62, 3) := by decide +kernel
theorem d_X6_drawFromAts_7 : decode cX6_drawFromAts 7 = .ok (.iconst 0, 1) := by decide +kernel
theorem d_X6_drawFromAts_8 : decode cX6_drawFromAts 8 = .ok (.istore_n 2, 1) := by decide +kernel
theorem d_X6_drawFromAts_9 : decode cX6_drawFromAts 9 = .ok (.iload_n 2, 1) := by decide +kernel
theorem d_X6_drawFromAts_10 : decode cX6_drawFromAts 10 = .ok (.aload_n 0, 1) := by decide +kernel
theorem d_X6_drawFromAts_11 : decode cX6_drawFromAts 11 = .ok (.getfield 12, 3) := by decide +kernel
theorem d_X6_drawFromAts_14 : decode cX6_drawFromAts 14 = .ok (.getfield 36, 3) := by decide +kernel
theorem d_X6_drawFromAts_17 : decode cX6_drawFromAts 17 = .ok (.if_icmp .ge 43, 3) := by decide +kernel
theorem d_X6_drawFromAts_20 : decode cX6_drawFromAts 20 = .ok (.aload_n 0, 1) := by decide +kernel
theorem d_X6_drawFromAts_21 : decode cX6_drawFromAts 21 = .ok (.getfield 12, 3) := by decide +kernel
theorem d_X6_drawFromAts_24 : decode cX6_drawFromAts 24 = .ok (.getfield 39, 3) := by decide +kernel
theorem d_X6_drawFromAts_27 : decode cX6_drawFromAts 27 = .ok (.iload_n 1, 1) := by decide +kernel
theorem d_X6_drawFromAts_28 : decode cX6_drawFromAts 28 = .ok (.aaload, 1) := by decide +kernel
theorem d_X6_drawFromAts_29 : decode cX6_drawFromAts 29 = .ok (.iload_n 2, 1) := by decide +kernel
theorem d_X6_drawFromAts_30 : decode cX6_drawFromAts 30 = .ok (.iaload, 1) := by decide +kernel
theorem d_X6_drawFromAts_31 : decode cX6_drawFromAts 31 = .ok (.iconst 2, 1) := by decide +kernel
theorem d_X6_drawFromAts_32 : decode cX6_drawFromAts 32 = .ok (.if_icmp .ne 22, 3) := by decide +kernel
theorem d_X6_drawFromAts_35 : decode cX6_drawFromAts 35 = .ok (.aload_n 0, 1) := by decide +kernel
theorem d_X6_drawFromAts_36 : decode cX6_drawFromAts 36 = .ok (.iload_n 2, 1) := by decide +kernel
theorem d_X6_drawFromAts_37 : decode cX6_drawFromAts 37 = .ok (.invokevirtual 43, 3) := by decide +kernel
theorem d_X6_drawFromAts_40 : decode cX6_drawFromAts 40 = .ok (.aload_n 0, 1) := by decide +kernel
theorem d_X6_drawFromAts_41 : decode cX6_drawFromAts 41 = .ok (.aload_n 0, 1) := by decide +kernel
theorem d_X6_drawFromAts_42 : decode cX6_drawFromAts 42 = .ok (.getfield 12, 3) := by decide +kernel
theorem d_X6_drawFromAts_45 : decode cX6_drawFromAts 45 = .ok (.getfield 39, 3) := by decide +kernel
theorem d_X6_drawFromAts_48 : decode cX6_drawFromAts 48 = .ok (.iload_n 1, 1) := by decide +kernel
theorem d_X6_drawFromAts_49 : decode cX6_drawFromAts 49 = .ok (.aaload, 1) := by decide +kernel
theorem d_X6_drawFromAts_50 : decode cX6_drawFromAts 50 = .ok (.iload_n 2, 1) := by decide +kernel
theorem d_X6_drawFromAts_51 : decode cX6_drawFromAts 51 = .ok (.invokevirtual 47, 3) := by decide +kernel
theorem d_X6_drawFromAts_54 : decode cX6_drawFromAts 54 = .ok (.iinc 2 1, 3) := by decide +kernel
theorem d_X6_drawFromAts_57 : decode cX6_drawFromAts 57 = .ok (.goto (-48), 3) := by decide +kernel
theorem d_X6_drawFromAts_60 : decode cX6_drawFromAts 60 = .ok (.iinc 1 1, 3) := by decide +kernel
theorem d_X6_drawFromAts_63 : decode cX6_drawFromAts 63 = .ok (.goto (-61), 3) := by decide +kernel
theorem d_X6_drawFromAts_66 : decode cX6_drawFromAts 66 = .ok (.return_, 1) := by decide +kernel
theorem b_X6_drawFromAts_0 {X : cX} {d : Nat} {μ : mM} {K : Option Value → mM → Prop} {r0 : Nat} (h : G X (Rm (d + 1)) mX6_drawFromAts 2 [(0, .ref r0), (1, .int (nI 0))] [] μ 0 0 K) : G X (Rm (d + 1)) mX6_drawFromAts 0 [(0, .ref r0)] [] μ 0 0 K := by
  refine G_iconst d_X6_drawFromAts_0 ic_0 ?_
  refine G_istore_n (L' := [(1, .int (nI 0)), (0, .ref r0)]) d_X6_drawFromAts_1 rfl (by decide) rfl ?_
  refine G_sub (L' := [(0, .ref r0), (1, .int (nI 0))]) [1, 0] rfl ?_
  exact h
theorem b_X6_drawFromAts_2 {X : cX} {d : Nat} {μ : mM} {K : Option Value → mM → Prop} {r0 : Nat} {l1 : Int32} (hK : (3 : Int32) ≤ l1 → K none μ) (h : ¬ (3 : Int32) ≤ l1 → G X (Rm (d + 1)) mX6_drawFromAts 9 [(0, .ref r0), (1, .int l1), (2, .int (nI 0))] [] μ 0 0 K) : G X (Rm (d + 1)) mX6_drawFromAts 2 [(0, .ref r0), (1, .int l1)] [] μ 0 0 K := by
  refine G_iload_n d_X6_drawFromAts_2 rfl 1 rfl ?_
  refine G_iconst d_X6_drawFromAts_3 ic_3 ?_
  refine G_icmp_ge (tgt := 66) d_X6_drawFromAts_4 rfl (fun c0 => ?_) (fun c0 => ?_)
  ·
    exact G_vret rfl rfl rfl d_X6_drawFromAts_66 (hK c0)
  ·
    refine G_iconst d_X6_drawFromAts_7 ic_0 ?_
    refine G_istore_n (L' := [(2, .int (nI 0)), (0, .ref r0), (1, .int l1)]) d_X6_drawFromAts_8 rfl (by decide) rfl ?_
    refine G_sub (L' := [(0, .ref r0), (1, .int l1), (2, .int (nI 0))]) [1, 2, 0] rfl ?_
    exact (h c0)
theorem b_X6_drawFromAts_9 {X : cX} {d : Nat} {μ : mM} {K : Option Value → mM → Prop} {r0 : Nat} {i1 : Nat} {i2 : Nat} (hw6_r0 : WF6 μ r0) (hw5_r01 : WF5 μ (r0 + 1)) (h : (iv μ (r0 + 1) 0) ≤ (nI i2) → G X (Rm (d + 1)) mX6_drawFromAts 2 [(0, .ref r0), (1, .int (nI (i1 + 1)))] [] μ 0 0 K) (hb : ¬ (iv μ (r0 + 1) 0) ≤ (nI i2) → i1 < 3) (hb_2 : ¬ (iv μ (r0 + 1) 0) ≤ (nI i2) → i2 < 6) (h_2 : ¬ (iv μ (r0 + 1) 0) ≤ (nI i2) → ¬ (iv μ (r0 + 1 + 3 + i1) i2) = (2 : Int32) → G X (Rm (d + 1)) mX6_drawFromAts 54 [(0, .ref r0), (1, .int (nI i1)), (2, .int (nI i2))] [] μ 0 0 K) (hc_makeSingle : ¬ (iv μ (r0 + 1) 0) ≤ (nI i2) → (iv μ (r0 + 1 + 3 + i1) i2) = (2 : Int32) → Ct X (Rm d) mX6_makeSingle [.ref r0, .int (nI i2)] μ (fun r μ2 => G X (Rm (d + 1)) mX6_drawFromAts 40 [(0, .ref r0), (1, .int (nI i1)), (2, .int (nI i2))] (r.toList ++ []) μ2 0 0 K)) : G X (Rm (d + 1)) mX6_drawFromAts 9 [(0, .ref r0), (1, .int (nI i1)), (2, .int (nI i2))] [] μ 0 0 K := by
  refine G_iload_n d_X6_drawFromAts_9 rfl 2 rfl ?_
  refine G_aload_n d_X6_drawFromAts_10 rfl 0 rfl ?_
  refine G_getR (r := r0 + 1) 6 0 (w6_kd hw6_r0) (w6_f0 hw6_r0) cok6 (by decide) rfl fl_X6_12 d_X6_drawFromAts_11 ?_
  refine G_getI 5 0 (w5_kd hw5_r01) cok5 (by decide) rfl fl_X6_36 d_X6_drawFromAts_14 ?_
  refine G_icmp_ge (tgt := 60) d_X6_drawFromAts_17 rfl (fun c0 => ?_) (fun c0 => ?_)
  ·
    refine G_iinc (L' := [(1, .int (nI (i1 + 1))), (0, .ref r0), (2, .int (nI i2))]) d_X6_drawFromAts_60 1 rfl (inc1 i1) (by decide) rfl ?_
    refine G_goto (tgt := 2) d_X6_drawFromAts_63 rfl ?_
    refine G_sub (L' := [(0, .ref r0), (1, .int (nI (i1 + 1)))]) [1, 0] rfl ?_
    exact (h c0)
  ·
    refine G_aload_n d_X6_drawFromAts_20 rfl 0 rfl ?_
    refine G_getR (r := r0 + 1) 6 0 (w6_kd hw6_r0) (w6_f0 hw6_r0) cok6 (by decide) rfl fl_X6_12 d_X6_drawFromAts_21 ?_
    refine G_getR (r := r0 + 1 + 2) 5 2 (w5_kd hw5_r01) (w5_f2 hw5_r01) cok5 (by decide) rfl fl_X6_39 d_X6_drawFromAts_24 ?_
    refine G_iload_n d_X6_drawFromAts_27 rfl 1 rfl ?_
    refine G_aaldA (r := r0 + 1 + 3 + i1) i1 (w5_k2 hw5_r01) rfl (hb c0) (w5_r2 hw5_r01 i1 (hb c0)) d_X6_drawFromAts_28 ?_
    refine G_iload_n d_X6_drawFromAts_29 rfl 2 rfl ?_
    refine G_iald i2 (w5_q2 hw5_r01 i1 (hb c0)) rfl (hb_2 c0) d_X6_drawFromAts_30 ?_
    refine G_iconst d_X6_drawFromAts_31 ic_2 ?_
    refine G_icmp_ne (tgt := 54) d_X6_drawFromAts_32 rfl (fun c1 => ?_) (fun c1 => ?_)
    ·
      exact (h_2 c0 c1)
    ·
      refine G_aload_n d_X6_drawFromAts_35 rfl 0 rfl ?_
      refine G_iload_n d_X6_drawFromAts_36 rfl 2 rfl ?_
      refine G_callV (M' := mX6_makeSingle) (R' := (Rm d)) (S := []) [.int (nI i2)] 6 (w6_kd hw6_r0) cok6 rfl ok_X6_makeSingle ml_X6_43 pn_X6_makeSingle (ru_Rm (by decide)) (Nat.le_of_ble_eq_true rfl) d_X6_drawFromAts_37 ?_
      exact (hc_makeSingle c0 c1)
theorem b_X6_drawFromAts_40 {X : cX} {d : Nat} {μ : mM} {K : Option Value → mM → Prop} {r0 : Nat} {i1 : Nat} {l2 : Int32} (hw6_r0 : WF6 μ r0) (hw5_r01 : WF5 μ (r0 + 1)) (hb : i1 < 3) (hc_clearOthers : Ct X (Rm d) mX6_clearOthers [.ref r0, .ref (r0 + 1 + 3 + i1), .int l2] μ (fun r μ2 => G X (Rm (d + 1)) mX6_drawFromAts 54 [(0, .ref r0), (1, .int (nI i1)), (2, .int l2)] (r.toList ++ []) μ2 0 0 K)) : G X (Rm (d + 1)) mX6_drawFromAts 40 [(0, .ref r0), (1, .int (nI i1)), (2, .int l2)] [] μ 0 0 K := by
  refine G_aload_n d_X6_drawFromAts_40 rfl 0 rfl ?_
  refine G_aload_n d_X6_drawFromAts_41 rfl 0 rfl ?_
  refine G_getR (r := r0 + 1) 6 0 (w6_kd hw6_r0) (w6_f0 hw6_r0) cok6 (by decide) rfl fl_X6_12 d_X6_drawFromAts_42 ?_
  refine G_getR (r := r0 + 1 + 2) 5 2 (w5_kd hw5_r01) (w5_f2 hw5_r01) cok5 (by decide) rfl fl_X6_39 d_X6_drawFromAts_45 ?_
  refine G_iload_n d_X6_drawFromAts_48 rfl 1 rfl ?_
  refine G_aaldA (r := r0 + 1 + 3 + i1) i1 (w5_k2 hw5_r01) rfl hb (w5_r2 hw5_r01 i1 hb) d_X6_drawFromAts_49 ?_
  refine G_iload_n d_X6_drawFromAts_50 rfl 2 rfl ?_
  refine G_callV (M' := mX6_clearOthers) (R' := (Rm d)) (S := []) [.ref (r0 + 1 + 3 + i1), .int l2] 6 (w6_kd hw6_r0) cok6 rfl ok_X6_clearOthers ml_X6_47 pn_X6_clearOthers (ru_Rm (by decide)) (Nat.le_of_ble_eq_true rfl) d_X6_drawFromAts_51 ?_
  exact hc_clearOthers
theorem b_X6_drawFromAts_54 {X : cX} {d : Nat} {μ : mM} {K : Option Value → mM → Prop} {r0 : Nat} {l1 : Int32} {i2 : Nat} (h : G X (Rm (d + 1)) mX6_drawFromAts 9 [(0, .ref r0), (1, .int l1), (2, .int (nI (i2 + 1)))] [] μ 0 0 K) : G X (Rm (d + 1)) mX6_drawFromAts 54 [(0, .ref r0), (1, .int l1), (2, .int (nI i2))] [] μ 0 0 K := by
  refine G_iinc (L' := [(2, .int (nI (i2 + 1))), (0, .ref r0), (1, .int l1)]) d_X6_drawFromAts_54 2 rfl (inc1 i2) (by decide) rfl ?_
  refine G_goto (tgt := 9) d_X6_drawFromAts_57 rfl ?_
  refine G_sub (L' := [(0, .ref r0), (1, .int l1), (2, .int (nI (i2 + 1)))]) [1, 2, 0] rfl ?_
  exact h
theorem d_X6_drawFromNexts_0 : decode cX6_drawFromNexts 0 = .ok (.iconst 0, 1) := by decide +kernel
theorem d_X6_drawFromNexts_1 : decode cX6_drawFromNexts 1 = .ok (.istore_n 1, 1) := by decide +kernel
theorem d_X6_drawFromNexts_2 : decode cX6_drawFromNexts 2 = .ok (.iload_n 1, 1) := by decide +kernel
theorem d_X6_drawFromNexts_3 : decode cX6_drawFromNexts 3 = .ok (.aload_n 0, 1) := by decide +kernel
theorem d_X6_drawFromNexts_4 : decode cX6_drawFromNexts 4 = .ok (.getfield 12, 3) := by decide +kernel
theorem d_X6_drawFromNexts_7 : decode cX6_drawFromNexts 7 = .ok (.getfield 36, 3) := by decide +kernel
theorem d_X6_drawFromNexts_10 : decode cX6_drawFromNexts 10 = .ok (.if_icmp .ge 69, 3) := by decide +kernel
theorem d_X6_drawFromNexts_13 : decode cX6_drawFromNexts 13 = .ok (.iconst 0, 1) := by decide +kernel
theorem d_X6_drawFromNexts_14 : decode cX6_drawFromNexts 14 = .ok (.istore_n 2, 1) := by decide +kernel
theorem d_X6_drawFromNexts_15 : decode cX6_drawFromNexts 15 = .ok (.iload_n 2, 1) := by decide +kernel
theorem d_X6_drawFromNexts_16 : decode cX6_drawFromNexts 16 = .ok (.aload_n 0, 1) := by decide +kernel
theorem d_X6_drawFromNexts_17 : decode cX6_drawFromNexts 17 = .ok (.getfield 12, 3) := by decide +kernel
theorem d_X6_drawFromNexts_20 : decode cX6_drawFromNexts 20 = .ok (.getfield 36, 3) := by decide +kernel
theorem d_X6_drawFromNexts_23 : decode cX6_drawFromNexts 23 = .ok (.if_icmp .ge 50, 3) := by decide +kernel
theorem d_X6_drawFromNexts_26 : decode cX6_drawFromNexts 26 = .ok (.aload_n 0, 1) := by decide +kernel
theorem d_X6_drawFromNexts_27 : decode cX6_drawFromNexts 27 = .ok (.getfield 12, 3) := by decide +kernel
theorem d_X6_drawFromNexts_30 : decode cX6_drawFromNexts 30 = .ok (.getfield 51, 3) := by decide +kernel
theorem d_X6_drawFromNexts_33 : decode cX6_drawFromNexts 33 = .ok (.iload_n 1, 1) := by decide +kernel
theorem d_X6_drawFromNexts_34 : decode cX6_drawFromNexts 34 = .ok (.aaload, 1) := by decide +kernel
theorem d_X6_drawFromNexts_35 : decode cX6_drawFromNexts 35 = .ok (.iload_n 2, 1) := by decide +kernel
theorem d_X6_drawFromNexts_36 : decode cX6_drawFromNexts 36 = .ok (.iaload, 1) := by decide +kernel
theorem d_X6_drawFromNexts_37 : decode cX6_drawFromNexts 37 = .ok (.iconst 2, 1) := by decide +kernel
theorem d_X6_drawFromNexts_38 : decode cX6_drawFromNexts 38 = .ok (.if_icmp .ne 29, 3) := by decide +kernel
theorem d_X6_drawFromNexts_41 : decode cX6_drawFromNexts 41 = .ok (.aload_n 0, 1) := by decide +kernel
theorem d_X6_drawFromNexts_42 : decode cX6_drawFromNexts 42 = .ok (.getfield 12, 3) := by decide +kernel
theorem d_X6_drawFromNexts_45 : decode cX6_drawFromNexts 45 = .ok (.getfield 54, 3) := by decide +kernel
theorem d_X6_drawFromNexts_48 : decode cX6_drawFromNexts 48 = .ok (.iload_n 2, 1) := by decide +kernel
theorem d_X6_drawFromNexts_49 : decode cX6_drawFromNexts 49 = .ok (.baload, 1) := by decide +kernel
theorem d_X6_drawFromNexts_50 : decode cX6_drawFromNexts 50 = .ok (.ifCond .ne 17, 3) := by decide +kernel
theorem d_X6_drawFromNexts_53 : decode cX6_drawFromNexts 53 = .ok (.aload_n 0, 1) := by decide +kernel
theorem d_X6_drawFromNexts_54 : decode cX6_drawFromNexts 54 = .ok (.aload_n 0, 1) := by decide +kernel
theorem d_X6_drawFromNexts_55 : decode cX6_drawFromNexts 55 = .ok (.getfield 12, 3) := by decide +kernel
theorem d_X6_drawFromNexts_58 : decode cX6_drawFromNexts 58 = .ok (.getfield 51, 3) := by decide +kernel
theorem d_X6_drawFromNexts_61 : decode cX6_drawFromNexts 61 = .ok (.iload_n 1, 1) := by decide +kernel
theorem d_X6_drawFromNexts_62 : decode cX6_drawFromNexts 62 = .ok (.aaload, 1) := by decide +kernel
theorem d_X6_drawFromNexts_63 : decode cX6_drawFromNexts 63 = .ok (.iload_n 2, 1) := by decide +kernel
theorem d_X6_drawFromNexts_64 : decode cX6_drawFromNexts 64 = .ok (.invokevirtual 47, 3) := by decide +kernel
theorem d_X6_drawFromNexts_67 : decode cX6_drawFromNexts 67 = .ok (.iinc 2 1, 3) := by decide +kernel
theorem d_X6_drawFromNexts_70 : decode cX6_drawFromNexts 70 = .ok (.goto (-55), 3) := by decide +kernel
theorem d_X6_drawFromNexts_73 : decode cX6_drawFromNexts 73 = .ok (.iinc 1 1, 3) := by decide +kernel
theorem d_X6_drawFromNexts_76 : decode cX6_drawFromNexts 76 = .ok (.goto (-74), 3) := by decide +kernel
theorem d_X6_drawFromNexts_79 : decode cX6_drawFromNexts 79 = .ok (.return_, 1) := by decide +kernel
theorem b_X6_drawFromNexts_0 {X : cX} {d : Nat} {μ : mM} {K : Option Value → mM → Prop} {r0 : Nat} (h : G X (Rm (d + 1)) mX6_drawFromNexts 2 [(0, .ref r0), (1, .int (nI 0))] [] μ 0 0 K) : G X (Rm (d + 1)) mX6_drawFromNexts 0 [(0, .ref r0)] [] μ 0 0 K := by
  refine G_iconst d_X6_drawFromNexts_0 ic_0 ?_
  refine G_istore_n (L' := [(1, .int (nI 0)), (0, .ref r0)]) d_X6_drawFromNexts_1 rfl (by decide) rfl ?_
  refine G_sub (L' := [(0, .ref r0), (1, .int (nI 0))]) [1, 0] rfl ?_
  exact h
theorem b_X6_drawFromNexts_2 {X : cX} {d : Nat} {μ : mM} {K : Option Value → mM → Prop} {r0 : Nat} {l1 : Int32} (hw6_r0 : WF6 μ r0) (hw5_r01 : WF5 μ (r0 + 1)) (hK : (iv μ (r0 + 1) 0) ≤ l1 → K none μ) (h : ¬ (iv μ (r0 + 1) 0) ≤ l1 → G X (Rm (d + 1)) mX6_drawFromNexts 15 [(0, .ref r0), (1, .int l1), (2, .int (nI 0))] [] μ 0 0 K) : G X (Rm (d + 1)) mX6_drawFromNexts 2 [(0, .ref r0), (1, .int l1)] [] μ 0 0 K := by
  refine G_iload_n d_X6_drawFromNexts_2 rfl 1 rfl ?_
  refine G_aload_n d_X6_drawFromNexts_3 rfl 0 rfl ?_
  refine G_getR (r := r0 + 1) 6 0 (w6_kd hw6_r0) (w6_f0 hw6_r0) cok6 (by decide) rfl fl_X6_12 d_X6_drawFromNexts_4 ?_
  refine G_getI 5 0 (w5_kd hw5_r01) cok5 (by decide) rfl fl_X6_36 d_X6_drawFromNexts_7 ?_
  refine G_icmp_ge (tgt := 79) d_X6_drawFromNexts_10 rfl (fun c0 => ?_) (fun c0 => ?_)
  ·
    exact G_vret rfl rfl rfl d_X6_drawFromNexts_79 (hK c0)
  ·
    refine G_iconst d_X6_drawFromNexts_13 ic_0 ?_
    refine G_istore_n (L' := [(2, .int (nI 0)), (0, .ref r0), (1, .int l1)]) d_X6_drawFromNexts_14 rfl (by decide) rfl ?_
    refine G_sub (L' := [(0, .ref r0), (1, .int l1), (2, .int (nI 0))]) [1, 2, 0] rfl ?_
    exact (h c0)
theorem b_X6_drawFromNexts_15 {X : cX} {d : Nat} {μ : mM} {K : Option Value → mM → Prop} {r0 : Nat} {i1 : Nat} {i2 : Nat} (hw6_r0 : WF6 μ r0) (hw5_r01 : WF5 μ (r0 + 1)) (h : (iv μ (r0 + 1) 0) ≤ (nI i2) → G X (Rm (d + 1)) mX6_drawFromNexts 2 [(0, .ref r0), (1, .int (nI (i1 + 1)))] [] μ 0 0 K) (hb : ¬ (iv μ (r0 + 1) 0) ≤ (nI i2) → i1 < 6) (hb_2 : ¬ (iv μ (r0 + 1) 0) ≤ (nI i2) → i2 < 6) (h_2 : ¬ (iv μ (r0 + 1) 0) ≤ (nI i2) → ¬ (iv μ (r0 + 1 + 7 + i1) i2) = (2 : Int32) → G X (Rm (d + 1)) mX6_drawFromNexts 67 [(0, .ref r0), (1, .int (nI i1)), (2, .int (nI i2))] [] μ 0 0 K) (hb_3 : ¬ (iv μ (r0 + 1) 0) ≤ (nI i2) → (iv μ (r0 + 1 + 7 + i1) i2) = (2 : Int32) → i2 < 6) (h_3 : ¬ (iv μ (r0 + 1) 0) ≤ (nI i2) → (iv μ (r0 + 1 + 7 + i1) i2) = (2 : Int32) → ¬ (iv μ (r0 + 1 + 1) i2) = 0 → G X (Rm (d + 1)) mX6_drawFromNexts 67 [(0, .ref r0), (1, .int (nI i1)), (2, .int (nI i2))] [] μ 0 0 K) (hb_4 : ¬ (iv μ (r0 + 1) 0) ≤ (nI i2) → (iv μ (r0 + 1 + 7 + i1) i2) = (2 : Int32) → (iv μ (r0 + 1 + 1) i2) = 0 → i1 < 6) (hc_clearOthers : ¬ (iv μ (r0 + 1) 0) ≤ (nI i2) → (iv μ (r0 + 1 + 7 + i1) i2) = (2 : Int32) → (iv μ (r0 + 1 + 1) i2) = 0 → Ct X (Rm d) mX6_clearOthers [.ref r0, .ref (r0 + 1 + 7 + i1), .int (nI i2)] μ (fun r μ2 => G X (Rm (d + 1)) mX6_drawFromNexts 67 [(0, .ref r0), (1, .int (nI i1)), (2, .int (nI i2))] (r.toList ++ []) μ2 0 0 K)) : G X (Rm (d + 1)) mX6_drawFromNexts 15 [(0, .ref r0), (1, .int (nI i1)), (2, .int (nI i2))] [] μ 0 0 K := by
  refine G_iload_n d_X6_drawFromNexts_15 rfl 2 rfl ?_
  refine G_aload_n d_X6_drawFromNexts_16 rfl 0 rfl ?_
  refine G_getR (r := r0 + 1) 6 0 (w6_kd hw6_r0) (w6_f0 hw6_r0) cok6 (by decide) rfl fl_X6_12 d_X6_drawFromNexts_17 ?_
  refine G_getI 5 0 (w5_kd hw5_r01) cok5 (by decide) rfl fl_X6_36 d_X6_drawFromNexts_20 ?_
  refine G_icmp_ge (tgt := 73) d_X6_drawFromNexts_23 rfl (fun c0 => ?_) (fun c0 => ?_)
  ·
    refine G_iinc (L' := [(1, .int (nI (i1 + 1))), (0, .ref r0), (2, .int (nI i2))]) d_X6_drawFromNexts_73 1 rfl (inc1 i1) (by decide) rfl ?_
    refine G_goto (tgt := 2) d_X6_drawFromNexts_76 rfl ?_
    refine G_sub (L' := [(0, .ref r0), (1, .int (nI (i1 + 1)))]) [1, 0] rfl ?_
    exact (h c0)
  ·
    refine G_aload_n d_X6_drawFromNexts_26 rfl 0 rfl ?_
    refine G_getR (r := r0 + 1) 6 0 (w6_kd hw6_r0) (w6_f0 hw6_r0) cok6 (by decide) rfl fl_X6_12 d_X6_drawFromNexts_27 ?_
    refine G_getR (r := r0 + 1 + 6) 5 3 (w5_kd hw5_r01) (w5_f3 hw5_r01) cok5 (by decide) rfl fl_X6_51 d_X6_drawFromNexts_30 ?_
    refine G_iload_n d_X6_drawFromNexts_33 rfl 1 rfl ?_
    refine G_aaldA (r := r0 + 1 + 7 + i1) i1 (w5_k3 hw5_r01) rfl (hb c0) (w5_r3 hw5_r01 i1 (hb c0)) d_X6_drawFromNexts_34 ?_
    refine G_iload_n d_X6_drawFromNexts_35 rfl 2 rfl ?_
    refine G_iald i2 (w5_q3 hw5_r01 i1 (hb c0)) rfl (hb_2 c0) d_X6_drawFromNexts_36 ?_
    refine G_iconst d_X6_drawFromNexts_37 ic_2 ?_
    refine G_icmp_ne (tgt := 67) d_X6_drawFromNexts_38 rfl (fun c1 => ?_) (fun c1 => ?_)
    ·
      exact (h_2 c0 c1)
    ·
      refine G_aload_n d_X6_drawFromNexts_41 rfl 0 rfl ?_
      refine G_getR (r := r0 + 1) 6 0 (w6_kd hw6_r0) (w6_f0 hw6_r0) cok6 (by decide) rfl fl_X6_12 d_X6_drawFromNexts_42 ?_
      refine G_getR (r := r0 + 1 + 1) 5 1 (w5_kd hw5_r01) (w5_f1 hw5_r01) cok5 (by decide) rfl fl_X6_54 d_X6_drawFromNexts_45 ?_
      refine G_iload_n d_X6_drawFromNexts_48 rfl 2 rfl ?_
      refine G_zald i2 (w5_k1 hw5_r01) rfl (hb_3 c0 c1) d_X6_drawFromNexts_49 ?_
      refine G_if_ne (tgt := 67) d_X6_drawFromNexts_50 rfl (fun c2 => ?_) (fun c2 => ?_)
      ·
        exact (h_3 c0 c1 c2)
      ·
        refine G_aload_n d_X6_drawFromNexts_53 rfl 0 rfl ?_
        refine G_aload_n d_X6_drawFromNexts_54 rfl 0 rfl ?_
        refine G_getR (r := r0 + 1) 6 0 (w6_kd hw6_r0) (w6_f0 hw6_r0) cok6 (by decide) rfl fl_X6_12 d_X6_drawFromNexts_55 ?_
        refine G_getR (r := r0 + 1 + 6) 5 3 (w5_kd hw5_r01) (w5_f3 hw5_r01) cok5 (by decide) rfl fl_X6_51 d_X6_drawFromNexts_58 ?_
        refine G_iload_n d_X6_drawFromNexts_61 rfl 1 rfl ?_
        refine G_aaldA (r := r0 + 1 + 7 + i1) i1 (w5_k3 hw5_r01) rfl (hb_4 c0 c1 c2) (w5_r3 hw5_r01 i1 (hb_4 c0 c1 c2)) d_X6_drawFromNexts_62 ?_
        refine G_iload_n d_X6_drawFromNexts_63 rfl 2 rfl ?_
        refine G_callV (M' := mX6_clearOthers) (R' := (Rm d)) (S := []) [.ref (r0 + 1 + 7 + i1), .int (nI i2)] 6 (w6_kd hw6_r0) cok6 rfl ok_X6_clearOthers ml_X6_47 pn_X6_clearOthers (ru_Rm (by decide)) (Nat.le_of_ble_eq_true rfl) d_X6_drawFromNexts_64 ?_
        exact (hc_clearOthers c0 c1 c2)
theorem b_X6_drawFromNexts_67 {X : cX} {d : Nat} {μ : mM} {K : Option Value → mM → Prop} {r0 : Nat} {l1 : Int32} {i2 : Nat} (h : G X (Rm (d + 1)) mX6_drawFromNexts 15 [(0, .ref r0), (1, .int l1), (2, .int (nI (i2 + 1)))] [] μ 0 0 K) : G X (Rm (d + 1)) mX6_drawFromNexts 67 [(0, .ref r0), (1, .int l1), (2, .int (nI i2))] [] μ 0 0 K := by
  refine G_iinc (L' := [(2, .int (nI (i2 + 1))), (0, .ref r0), (1, .int l1)]) d_X6_drawFromNexts_67 2 rfl (inc1 i2) (by decide) rfl ?_
  refine G_goto (tgt := 15) d_X6_drawFromNexts_70 rfl ?_
  refine G_sub (L' := [(0, .ref r0), (1, .int l1), (2, .int (nI (i2 + 1)))]) [1, 2, 0] rfl ?_
  exact h
theorem d_X6_apply_0 : decode cX6_apply 0 = .ok (.aload_n 0, 1) := by decide +kernel
theorem d_X6_apply_1 : decode cX6_apply 1 = .ok (.getfield 12, 3) := by decide +kernel
theorem d_X6_apply_4 : decode cX6_apply 4 = .ok (.aload_n 1, 1) := by decide +kernel
theorem d_X6_apply_5 : decode cX6_apply 5 = .ok (.invokevirtual 18, 3) := by decide +kernel
theorem d_X6_apply_8 : decode cX6_apply 8 = .ok (.aload_n 0, 1) := by decide +kernel
theorem d_X6_apply_9 : decode cX6_apply 9 = .ok (.iconst 0, 1) := by decide +kernel
theorem d_X6_apply_10 : decode cX6_apply 10 = .ok (.putfield 22, 3) := by decide +kernel
theorem d_X6_apply_13 : decode cX6_apply 13 = .ok (.aload_n 0, 1) := by decide +kernel
theorem d_X6_apply_14 : decode cX6_apply 14 = .ok (.iconst 0, 1) := by decide +kernel
theorem d_X6_apply_15 : decode cX6_apply 15 = .ok (.putfield 26, 3) := by decide +kernel
theorem d_X6_apply_18 : decode cX6_apply 18 = .ok (.iconst (-1), 1) := by decide +kernel
theorem d_X6_apply_19 : decode cX6_apply 19 = .ok (.istore_n 2, 1) := by decide +kernel
theorem d_X6_apply_20 : decode cX6_apply 20 = .ok (.iconst 0, 1) := by decide +kernel
theorem d_X6_apply_21 : decode cX6_apply 21 = .ok (.istore_n 3, 1) := by decide +kernel
theorem d_X6_apply_22 : decode cX6_apply 22 = .ok (.iload_n 3, 1) := by decide +kernel
theorem d_X6_apply_23 : decode cX6_apply 23 = .ok (.bipush 100, 2) := by decide +kernel
theorem d_X6_apply_25 : decode cX6_apply 25 = .ok (.if_icmp .ge 37, 3) := by decide +kernel
theorem d_X6_apply_28 : decode cX6_apply 28 = .ok (.aload_n 0, 1) := by decide +kernel
theorem d_X6_apply_29 : decode cX6_apply 29 = .ok (.getfield 22, 3) := by decide +kernel
theorem d_X6_apply_32 : decode cX6_apply 32 = .ok (.iload_n 2, 1) := by decide +kernel
theorem d_X6_apply_33 : decode cX6_apply 33 = .ok (.if_icmp .eq 29, 3) := by decide +kernel
theorem d_X6_apply_36 : decode cX6_apply 36 = .ok (.aload_n 0, 1) := by decide +kernel
theorem d_X6_apply_37 : decode cX6_apply 37 = .ok (.getfield 26, 3) := by decide +kernel
theorem d_X6_apply_40 : decode cX6_apply 40 = .ok (.ifCond .ne 22, 3) := by decide +kernel
theorem d_X6_apply_43 : decode cX6_apply 43 = .ok (.aload_n 0, 1) := by decide +kernel
theorem d_X6_apply_44 : decode cX6_apply 44 = .ok (.getfield 22, 3) := by decide +kernel
theorem d_X6_apply_47 : decode cX6_apply 47 = .ok (.istore_n 2, 1) := by decide +kernel
theorem d_X6_apply_48 : decode cX6_apply 48 = .ok (.aload_n 0, 1) := by decide +kernel
theorem d_X6_apply_49 : decode cX6_apply 49 = .ok (.invokevirtual 30, 3) := by decide +kernel
theorem d_X6_apply_52 : decode cX6_apply 52 = .ok (.aload_n 0, 1) := by decide +kernel
theorem d_X6_apply_53 : decode cX6_apply 53 = .ok (.invokevirtual 33, 3) := by decide +kernel
theorem d_X6_apply_56 : decode cX6_apply 56 = .ok (.iinc 3 1, 3) := by decide +kernel
theorem d_X6_apply_59 : decode cX6_apply 59 = .ok (.goto (-37), 3) := by decide +kernel
theorem d_X6_apply_62 : decode cX6_apply 62 = .ok (.aload_n 0, 1) := by decide +kernel
theorem d_X6_apply_63 : decode cX6_apply 63 = .ok (.getfield 26, 3) := by decide +kernel
theorem d_X6_apply_66 : decode cX6_apply 66 = .ok (.ifCond .eq 6, 3) := by decide +kernel
theorem d_X6_apply_69 : decode cX6_apply 69 = .ok (.bipush (-2), 2) := by decide +kernel
theorem d_X6_apply_71 : decode cX6_apply 71 = .ok (.ireturn, 1) := by decide +kernel
theorem d_X6_apply_72 : decode cX6_apply 72 = .ok (.aload_n 1, 1) := by decide +kernel
theorem d_X6_apply_73 : decode cX6_apply 73 = .ok (.aload_n 0, 1) := by decide +kernel
theorem d_X6_apply_74 : decode cX6_apply 74 = .ok (.getfield 12, 3) := by decide +kernel
theorem d_X6_apply_77 : decode cX6_apply 77 = .ok (.invokevirtual 18, 3) := by decide +kernel
theorem d_X6_apply_80 : decode cX6_apply 80 = .ok (.aload_n 0, 1) := by decide +kernel
theorem d_X6_apply_81 : decode cX6_apply 81 = .ok (.getfield 22, 3) := by decide +kernel
theorem d_X6_apply_84 : decode cX6_apply 84 = .ok (.ireturn, 1) := by decide +kernel
theorem b_X6_apply_0 {X : cX} {d : Nat} {μ : mM} {K : Option Value → mM → Prop} {r0 : Nat} {r1 : Nat} (hw6_r0 : WF6 μ r0) (hw5_r01 : WF5 μ (r0 + 1)) (hc_copy : Ct X (Rm (d + 1)) mX5_copy [.ref (r0 + 1), .ref r1] μ (fun r μ2 => G X (Rm (d + 2)) mX6_apply 8 [(0, .ref r0), (1, .ref r1)] (r.toList ++ []) μ2 0 0 K)) : G X (Rm (d + 2)) mX6_apply 0 [(0, .ref r0), (1, .ref r1)] [] μ 0 0 K := by
  refine G_aload_n d_X6_apply_0 rfl 0 rfl ?_
  refine G_getR (r := r0 + 1) 6 0 (w6_kd hw6_r0) (w6_f0 hw6_r0) cok6 (by decide) rfl fl_X6_12 d_X6_apply_1 ?_
  refine G_aload_n d_X6_apply_4 rfl 1 rfl ?_
  refine G_callV (M' := mX5_copy) (R' := (Rm (d + 1))) (S := []) [.ref r1] 5 (w5_kd hw5_r01) cok5 rfl ok_X5_copy ml_X6_18 pn_X5_copy (ru_Rm (by decide)) (Nat.le_of_ble_eq_true rfl) d_X6_apply_5 ?_
  exact hc_copy
theorem b_X6_apply_8 {X : cX} {d : Nat} {μ : mM} {K : Option Value → mM → Prop} {r0 : Nat} {r1 : Nat} (hw6_r0 : WF6 μ r0) (h : G X (Rm (d + 2)) mX6_apply 22 [(0, .ref r0), (1, .ref r1), (2, .int (-1)), (3, .int (nI 0))] [] (wi (wi μ r0 1 0) r0 2 0) 0 0 K) : G X (Rm (d + 2)) mX6_apply 8 [(0, .ref r0), (1, .ref r1)] [] μ 0 0 K := by
  refine G_aload_n d_X6_apply_8 rfl 0 rfl ?_
  refine G_iconst d_X6_apply_9 ic_0 ?_
  refine G_putI 6 1 (w6_kd hw6_r0) rfl rfl cok6 (by decide) rfl (Or.inl rfl) fl_X6_22 d_X6_apply_10 ?_
  refine G_aload_n d_X6_apply_13 rfl 0 rfl ?_
  refine G_iconst d_X6_apply_14 ic_0 ?_
  refine G_putI 6 2 (w6_kd hw6_r0) rfl rfl cok6 (by decide) rfl (Or.inl rfl) fl_X6_26 d_X6_apply_15 ?_
  refine G_iconst d_X6_apply_18 ic_m1 ?_
  refine G_istore_n (L' := [(2, .int (-1)), (0, .ref r0), (1, .ref r1)]) d_X6_apply_19 rfl (by decide) rfl ?_
  refine G_iconst d_X6_apply_20 ic_0 ?_
  refine G_istore_n (L' := [(3, .int (nI 0)), (2, .int (-1)), (0, .ref r0), (1, .ref r1)]) d_X6_apply_21 rfl (by decide) rfl ?_
  refine G_sub (L' := [(0, .ref r0), (1, .ref r1), (2, .int (-1)), (3, .int (nI 0))]) [2, 3, 1, 0] rfl ?_
  exact h
theorem b_X6_apply_22 {X : cX} {d : Nat} {μ : mM} {K : Option Value → mM → Prop} {r0 : Nat} {r1 : Nat} {l2 : Int32} {l3 : Int32} (h : (100 : Int32) ≤ l3 → G X (Rm (d + 2)) mX6_apply 62 [(0, .ref r0), (1, .ref r1)] [] μ 0 0 K) (hw6_r0 : WF6 μ r0) (h_2 : ¬ (100 : Int32) ≤ l3 → (iv μ r0 1) = l2 → G X (Rm (d + 2)) mX6_apply 62 [(0, .ref r0), (1, .ref r1)] [] μ 0 0 K) (h_3 : ¬ (100 : Int32) ≤ l3 → ¬ (iv μ r0 1) = l2 → ¬ (iv μ r0 2) = 0 → G X (Rm (d + 2)) mX6_apply 62 [(0, .ref r0), (1, .ref r1)] [] μ 0 0 K) (hc_drawFromAts : ¬ (100 : Int32) ≤ l3 → ¬ (iv μ r0 1) = l2 → (iv μ r0 2) = 0 → Ct X (Rm (d + 1)) mX6_drawFromAts [.ref r0] μ (fun r μ2 => G X (Rm (d + 2)) mX6_apply 52 [(0, .ref r0), (1, .ref r1), (2, .int (iv μ r0 1)), (3, .int l3)] (r.toList ++ []) μ2 0 0 K)) : G X (Rm (d + 2)) mX6_apply 22 [(0, .ref r0), (1, .ref r1), (2, .int l2), (3, .int l3)] [] μ 0 0 K := by
  refine G_iload_n d_X6_apply_22 rfl 3 rfl ?_
  refine G_bipush d_X6_apply_23 bp_100 ?_
  refine G_icmp_ge (tgt := 62) d_X6_apply_25 rfl (fun c0 => ?_) (fun c0 => ?_)
  ·
    refine G_sub (L' := [(0, .ref r0), (1, .ref r1)]) [0, 1] rfl ?_
    exact (h c0)
  ·
    refine G_aload_n d_X6_apply_28 rfl 0 rfl ?_
    refine G_getI 6 1 (w6_kd hw6_r0) cok6 (by decide) rfl fl_X6_22 d_X6_apply_29 ?_
    refine G_iload_n d_X6_apply_32 rfl 2 rfl ?_
    refine G_icmp_eq (tgt := 62) d_X6_apply_33 rfl (fun c1 => ?_) (fun c1 => ?_)
    ·
      refine G_sub (L' := [(0, .ref r0), (1, .ref r1)]) [0, 1] rfl ?_
      exact (h_2 c0 c1)
    ·
      refine G_aload_n d_X6_apply_36 rfl 0 rfl ?_
      refine G_getI 6 2 (w6_kd hw6_r0) cok6 (by decide) rfl fl_X6_26 d_X6_apply_37 ?_
      refine G_if_ne (tgt := 62) d_X6_apply_40 rfl (fun c2 => ?_) (fun c2 => ?_)
      ·
        refine G_sub (L' := [(0, .ref r0), (1, .ref r1)]) [0, 1] rfl ?_
        exact (h_3 c0 c1 c2)
      ·
        refine G_aload_n d_X6_apply_43 rfl 0 rfl ?_
        refine G_getI 6 1 (w6_kd hw6_r0) cok6 (by decide) rfl fl_X6_22 d_X6_apply_44 ?_
        refine G_istore_n (L' := [(2, .int (iv μ r0 1)), (0, .ref r0), (1, .ref r1), (3, .int l3)]) d_X6_apply_47 rfl (by decide) rfl ?_
        refine G_aload_n d_X6_apply_48 rfl 1 rfl ?_
        refine G_sub (L' := [(0, .ref r0), (1, .ref r1), (2, .int (iv μ r0 1)), (3, .int l3)]) [1, 2, 0, 3] rfl ?_
        refine G_callV (M' := mX6_drawFromAts) (R' := (Rm (d + 1))) (S := []) [] 6 (w6_kd hw6_r0) cok6 rfl ok_X6_drawFromAts ml_X6_30 pn_X6_drawFromAts (ru_Rm (by decide)) (Nat.le_of_ble_eq_true rfl) d_X6_apply_49 ?_
        exact (hc_drawFromAts c0 c1 c2)
theorem b_X6_apply_52 {X : cX} {d : Nat} {μ : mM} {K : Option Value → mM → Prop} {r0 : Nat} {r1 : Nat} {l2 : Int32} {l3 : Int32} (hw6_r0 : WF6 μ r0) (hc_drawFromNexts : Ct X (Rm (d + 1)) mX6_drawFromNexts [.ref r0] μ (fun r μ2 => G X (Rm (d + 2)) mX6_apply 56 [(0, .ref r0), (1, .ref r1), (2, .int l2), (3, .int l3)] (r.toList ++ []) μ2 0 0 K)) : G X (Rm (d + 2)) mX6_apply 52 [(0, .ref r0), (1, .ref r1), (2, .int l2), (3, .int l3)] [] μ 0 0 K := by
  refine G_aload_n d_X6_apply_52 rfl 0 rfl ?_
  refine G_callV (M' := mX6_drawFromNexts) (R' := (Rm (d + 1))) (S := []) [] 6 (w6_kd hw6_r0) cok6 rfl ok_X6_drawFromNexts ml_X6_33 pn_X6_drawFromNexts (ru_Rm (by decide)) (Nat.le_of_ble_eq_true rfl) d_X6_apply_53 ?_
  exact hc_drawFromNexts
theorem b_X6_apply_56 {X : cX} {d : Nat} {μ : mM} {K : Option Value → mM → Prop} {r0 : Nat} {r1 : Nat} {l2 : Int32} {i3 : Nat} (h : G X (Rm (d + 2)) mX6_apply 22 [(0, .ref r0), (1, .ref r1), (2, .int l2), (3, .int (nI (i3 + 1)))] [] μ 0 0 K) : G X (Rm (d + 2)) mX6_apply 56 [(0, .ref r0), (1, .ref r1), (2, .int l2), (3, .int (nI i3))] [] μ 0 0 K := by
  refine G_iinc (L' := [(3, .int (nI (i3 + 1))), (0, .ref r0), (1, .ref r1), (2, .int l2)]) d_X6_apply_56 3 rfl (inc1 i3) (by decide) rfl ?_
  refine G_goto (tgt := 22) d_X6_apply_59 rfl ?_
  refine G_sub (L' := [(0, .ref r0), (1, .ref r1), (2, .int l2), (3, .int (nI (i3 + 1)))]) [1, 2, 3, 0] rfl ?_
  exact h
theorem b_X6_apply_62 {X : cX} {d : Nat} {μ : mM} {K : Option Value → mM → Prop} {r0 : Nat} {r1 : Nat} (hw6_r0 : WF6 μ r0) (hw5_r1 : WF5 μ r1) (hc_copy : (iv μ r0 2) = 0 → Ct X (Rm (d + 1)) mX5_copy [.ref r1, .ref (r0 + 1)] μ (fun r μ2 => G X (Rm (d + 2)) mX6_apply 80 [(0, .ref r0)] (r.toList ++ []) μ2 0 0 K)) (hK : ¬ (iv μ r0 2) = 0 → K (some (.int (-2))) μ) : G X (Rm (d + 2)) mX6_apply 62 [(0, .ref r0), (1, .ref r1)] [] μ 0 0 K := by
  refine G_aload_n d_X6_apply_62 rfl 0 rfl ?_
  refine G_getI 6 2 (w6_kd hw6_r0) cok6 (by decide) rfl fl_X6_26 d_X6_apply_63 ?_
  refine G_if_eq (tgt := 72) d_X6_apply_66 rfl (fun c0 => ?_) (fun c0 => ?_)
  ·
    refine G_aload_n d_X6_apply_72 rfl 1 rfl ?_
    refine G_aload_n d_X6_apply_73 rfl 0 rfl ?_
    refine G_getR (r := r0 + 1) 6 0 (w6_kd hw6_r0) (w6_f0 hw6_r0) cok6 (by decide) rfl fl_X6_12 d_X6_apply_74 ?_
    refine G_sub (L' := [(0, .ref r0)]) [0] rfl ?_
    refine G_callV (M' := mX5_copy) (R' := (Rm (d + 1))) (S := []) [.ref (r0 + 1)] 5 (w5_kd hw5_r1) cok5 rfl ok_X5_copy ml_X6_18 pn_X5_copy (ru_Rm (by decide)) (Nat.le_of_ble_eq_true rfl) d_X6_apply_77 ?_
    exact (hc_copy c0)
  ·
    refine G_bipush d_X6_apply_69 bp_m2 ?_
    exact G_iret rfl rfl rfl d_X6_apply_71 (hK c0)
theorem b_X6_apply_80 {X : cX} {d : Nat} {μ : mM} {K : Option Value → mM → Prop} {r0 : Nat} (hw6_r0 : WF6 μ r0) (hK : K (some (.int (iv μ r0 1))) μ) : G X (Rm (d + 2)) mX6_apply 80 [(0, .ref r0)] [] μ 0 0 K := by
  refine G_aload_n d_X6_apply_80 rfl 0 rfl ?_
  refine G_getI 6 1 (w6_kd hw6_r0) cok6 (by decide) rfl fl_X6_22 d_X6_apply_81 ?_
  exact G_iret rfl rfl rfl d_X6_apply_84 hK
theorem d_X7_renew_0 : decode cX7_renew 0 = .ok (.aload_n 0, 1) := by decide +kernel
theorem d_X7_renew_1 : decode cX7_renew 1 = .ok (.iconst 1, 1) := by decide +kernel
theorem d_X7_renew_2 : decode cX7_renew 2 = .ok (.putfield 15, 3) := by decide +kernel
theorem d_X7_renew_5 : decode cX7_renew 5 = .ok (.aload_n 0, 1) := by decide +kernel
theorem d_X7_renew_6 : decode cX7_renew 6 = .ok (.iload_n 1, 1) := by decide +kernel
theorem d_X7_renew_7 : decode cX7_renew 7 = .ok (.putfield 19, 3) := by decide +kernel
theorem d_X7_renew_10 : decode cX7_renew 10 = .ok (.aload_n 0, 1) := by decide +kernel
theorem d_X7_renew_11 : decode cX7_renew 11 = .ok (.iconst 0, 1) := by decide +kernel
theorem d_X7_renew_12 : decode cX7_renew 12 = .ok (.iload_n 2, 1) := by decide +kernel
theorem d_X7_renew_13 : decode cX7_renew 13 = .ok (.bipush 40, 2) := by decide +kernel
theorem d_X7_renew_15 : decode cX7_renew 15 = .ok (.invokestatic 23, 3) := by decide +kernel
theorem d_X7_renew_18 : decode cX7_renew 18 = .ok (.invokestatic 29, 3) := by decide +kernel
theorem d_X7_renew_21 : decode cX7_renew 21 = .ok (.putfield 32, 3) := by decide +kernel
theorem d_X7_renew_24 : decode cX7_renew 24 = .ok (.aload_n 0, 1) := by decide +kernel
theorem d_X7_renew_25 : decode cX7_renew 25 = .ok (.getfield 9, 3) := by decide +kernel
theorem d_X7_renew_28 : decode cX7_renew 28 = .ok (.iconst 0, 1) := by decide +kernel
theorem d_X7_renew_29 : decode cX7_renew 29 = .ok (.invokestatic 35, 3) := by decide +kernel
theorem d_X7_renew_32 : decode cX7_renew 32 = .ok (.return_, 1) := by decide +kernel
theorem b_X7_renew_0 {X : cX} {d : Nat} {μ : mM} {K : Option Value → mM → Prop} {r0 : Nat} {l1 : Int32} {l2 : Int32} (hw7_r0 : WF7 μ r0) (hc_fill : Ct X (Rm d) mJ7_fill_53178 [.ref (r0 + 1), .int 0] (wi (wi (wi μ r0 0 1) r0 1 l1) r0 2 (if (0 : Int32) < (if 40 < l2 then 40 else l2) then (if 40 < l2 then 40 else l2) else 0)) (fun r μ2 => G X (Rm (d + 1)) mX7_renew 32 [] (r.toList ++ []) μ2 0 0 K)) : G X (Rm (d + 1)) mX7_renew 0 [(0, .ref r0), (1, .int l1), (2, .int l2)] [] μ 0 0 K := by
  refine G_aload_n d_X7_renew_0 rfl 0 rfl ?_
  refine G_iconst d_X7_renew_1 ic_1 ?_
  refine G_putI 7 0 (w7_kd hw7_r0) rfl rfl cok7 (by decide) rfl (Or.inl rfl) fl_X7_15 d_X7_renew_2 ?_
  refine G_aload_n d_X7_renew_5 rfl 0 rfl ?_
  refine G_iload_n d_X7_renew_6 rfl 1 rfl ?_
  refine G_putI 7 1 (w7_kd hw7_r0) rfl rfl cok7 (by decide) rfl (Or.inl rfl) fl_X7_19 d_X7_renew_7 ?_
  refine G_aload_n d_X7_renew_10 rfl 0 rfl ?_
  refine G_iconst d_X7_renew_11 ic_0 ?_
  refine G_iload_n d_X7_renew_12 rfl 2 rfl ?_
  refine G_bipush d_X7_renew_13 bp_40 ?_
  refine G_min ml_X7_23 rb_Rm (Nat.le_of_ble_eq_true rfl) d_X7_renew_15 ?_
  refine G_max ml_X7_29 rb_Rm (Nat.le_of_ble_eq_true rfl) d_X7_renew_18 ?_
  refine G_putI 7 2 (w7_kd hw7_r0) rfl rfl cok7 (by decide) rfl (Or.inl rfl) fl_X7_32 d_X7_renew_21 ?_
  refine G_aload_n d_X7_renew_24 rfl 0 rfl ?_
  refine G_getR (r := r0 + 1) 7 3 (w7_kd hw7_r0) (w7_f3 hw7_r0) cok7 (by decide) rfl fl_X7_9 d_X7_renew_25 ?_
  refine G_iconst d_X7_renew_28 ic_0 ?_
  refine G_sub (L' := []) [] rfl ?_
  refine G_callS (M' := mJ7_fill_53178) (R' := (Rm d)) (S := []) [.ref (r0 + 1), .int 0] ok_J7_fill_53178 ml_X7_35 pn_J7_fill_53178 (ru_Rm (by decide)) (Nat.le_of_ble_eq_true rfl) d_X7_renew_29 ?_
  exact hc_fill
theorem b_X7_renew_32 {X : cX} {d : Nat} {μ : mM} {K : Option Value → mM → Prop}  (hK : K none μ) : G X (Rm (d + 1)) mX7_renew 32 [] [] μ 0 0 K := by
  exact G_vret rfl rfl rfl d_X7_renew_32 hK
theorem d_X7_findTaken_0 : decode cX7_findTaken 0 = .ok (.aload_n 0, 1) := by decide +kernel
theorem d_X7_findTaken_1 : decode cX7_findTaken 1 = .ok (.getfield 15, 3) := by decide +kernel
theorem d_X7_findTaken_4 : decode cX7_findTaken 4 = .ok (.ifCond .ne 5, 3) := by decide +kernel
theorem d_X7_findTaken_7 : decode cX7_findTaken 7 = .ok (.iconst 1, 1) := by decide +kernel
theorem d_X7_findTaken_8 : decode cX7_findTaken 8 = .ok (.ireturn, 1) := by decide +kernel
theorem d_X7_findTaken_9 : decode cX7_findTaken 9 = .ok (.aload_n 0, 1) := by decide +kernel
theorem d_X7_findTaken_10 : decode cX7_findTaken 10 = .ok (.getfield 19, 3) := by decide +kernel
theorem d_X7_findTaken_13 : decode cX7_findTaken 13 = .ok (.iload_n 1, 1) := by decide +kernel
theorem d_X7_findTaken_14 : decode cX7_findTaken 14 = .ok (.if_icmp .eq 5, 3) := by decide +kernel
theorem d_X7_findTaken_17 : decode cX7_findTaken 17 = .ok (.iconst 3, 1) := by decide +kernel
theorem d_X7_findTaken_18 : decode cX7_findTaken 18 = .ok (.ireturn, 1) := by decide +kernel
theorem d_X7_findTaken_19 : decode cX7_findTaken 19 = .ok (.iload_n 2, 1) := by decide +kernel
theorem d_X7_findTaken_20 : decode cX7_findTaken 20 = .ok (.ifCond .lt 13, 3) := by decide +kernel
theorem d_X7_findTaken_23 : decode cX7_findTaken 23 = .ok (.iload_n 2, 1) := by decide +kernel
theorem d_X7_findTaken_24 : decode cX7_findTaken 24 = .ok (.aload_n 0, 1) := by decide +kernel
theorem d_X7_findTaken_25 : decode cX7_findTaken 25 = .ok (.getfield 32, 3) := by decide +kernel
theorem d_X7_findTaken_28 : decode cX7_findTaken 28 = .ok (.iload_n 3, 1) := by decide +kernel
theorem d_X7_findTaken_29 : decode cX7_findTaken 29 = .ok (.isub, 1) := by decide +kernel
theorem d_X7_findTaken_30 : decode cX7_findTaken 30 = .ok (.if_icmp .le 7, 3) := by decide +kernel
theorem d_X7_findTaken_33 : decode cX7_findTaken 33 = .ok (.iconst 2, 1) := by decide +kernel
theorem d_X7_findTaken_34 : decode cX7_findTaken 34 = .ok (.goto 4, 3) := by decide +kernel
theorem d_X7_findTaken_37 : decode cX7_findTaken 37 = .ok (.iconst 0, 1) := by decide +kernel
theorem d_X7_findTaken_38 : decode cX7_findTaken 38 = .ok (.ireturn, 1) := by decide +kernel
theorem b_X7_findTaken_0 {X : cX} {d : Nat} {μ : mM} {K : Option Value → mM → Prop} {r0 : Nat} {l1 : Int32} {l2 : Int32} {l3 : Int32} (hw7_r0 : WF7 μ r0) (hK : ¬ (iv μ r0 0) = 0 → (iv μ r0 1) = l1 → l2 < 0 → K (some (.int 2)) μ) (hK_2 : ¬ (iv μ r0 0) = 0 → (iv μ r0 1) = l1 → ¬ l2 < 0 → l2 ≤ ((iv μ r0 2) - l3) → K (some (.int 0)) μ) (hK_3 : ¬ (iv μ r0 0) = 0 → (iv μ r0 1) = l1 → ¬ l2 < 0 → ¬ l2 ≤ ((iv μ r0 2) - l3) → K (some (.int 2)) μ) (hK_4 : ¬ (iv μ r0 0) = 0 → ¬ (iv μ r0 1) = l1 → K (some (.int 3)) μ) (hK_5 : (iv μ r0 0) = 0 → K (some (.int 1)) μ) : G X (Rm d) mX7_findTaken 0 [(0, .ref r0), (1, .int l1), (2, .int l2), (3, .int l3)] [] μ 0 0 K := by
  refine G_aload_n d_X7_findTaken_0 rfl 0 rfl ?_
  refine G_getI 7 0 (w7_kd hw7_r0) cok7 (by decide) rfl fl_X7_15 d_X7_findTaken_1 ?_
  refine G_if_ne (tgt := 9) d_X7_findTaken_4 rfl (fun c0 => ?_) (fun c0 => ?_)
  ·
    refine G_aload_n d_X7_findTaken_9 rfl 0 rfl ?_
    refine G_getI 7 1 (w7_kd hw7_r0) cok7 (by decide) rfl fl_X7_19 d_X7_findTaken_10 ?_
    refine G_iload_n d_X7_findTaken_13 rfl 1 rfl ?_
    refine G_icmp_eq (tgt := 19) d_X7_findTaken_14 rfl (fun c1 => ?_) (fun c1 => ?_)
    ·
      refine G_iload_n d_X7_findTaken_19 rfl 2 rfl ?_
      refine G_if_lt (tgt := 33) d_X7_findTaken_20 rfl (fun c2 => ?_) (fun c2 => ?_)
      ·
        refine G_iconst d_X7_findTaken_33 ic_2 ?_
        refine G_goto (tgt := 38) d_X7_findTaken_34 rfl ?_
        exact G_iret rfl rfl rfl d_X7_findTaken_38 (hK c0 c1 c2)
      ·
        refine G_iload_n d_X7_findTaken_23 rfl 2 rfl ?_
        refine G_aload_n d_X7_findTaken_24 rfl 0 rfl ?_
        refine G_getI 7 2 (w7_kd hw7_r0) cok7 (by decide) rfl fl_X7_32 d_X7_findTaken_25 ?_
        refine G_iload_n d_X7_findTaken_28 rfl 3 rfl ?_
        refine G_isub d_X7_findTaken_29 ?_
        refine G_icmp_le (tgt := 37) d_X7_findTaken_30 rfl (fun c3 => ?_) (fun c3 => ?_)
        ·
          refine G_iconst d_X7_findTaken_37 ic_0 ?_
          exact G_iret rfl rfl rfl d_X7_findTaken_38 (hK_2 c0 c1 c2 c3)
        ·
          refine G_iconst d_X7_findTaken_33 ic_2 ?_
          refine G_goto (tgt := 38) d_X7_findTaken_34 rfl ?_
          exact G_iret rfl rfl rfl d_X7_findTaken_38 (hK_3 c0 c1 c2 c3)
    ·
      refine G_iconst d_X7_findTaken_17 ic_3 ?_
      exact G_iret rfl rfl rfl d_X7_findTaken_18 (hK_4 c0 c1)
  ·
    refine G_iconst d_X7_findTaken_7 ic_1 ?_
    exact G_iret rfl rfl rfl d_X7_findTaken_8 (hK_5 c0)
def e_X7_findTaken (μ : mM) (r0 : Nat) (l1 : Int32) (l2 : Int32) (l3 : Int32) : Int32 := (if (iv μ r0 0) = 0 then 1 else (if (iv μ r0 1) = l1 then (if l2 < 0 then 2 else (if l2 ≤ ((iv μ r0 2) - l3) then 0 else 2)) else 3))
theorem s_X7_findTaken {X : cX} {d : Nat} {μ : mM} {K : Option Value → mM → Prop} {r0 : Nat} {l1 : Int32} {l2 : Int32} {l3 : Int32} (hw7_r0 : WF7 μ r0) (hK : K (some (.int (e_X7_findTaken μ r0 l1 l2 l3))) μ) : Ct X (Rm d) mX7_findTaken [.ref r0, .int l1, .int l2, .int l3] μ K := Ct_of rfl (Nat.le_of_ble_eq_true rfl) (G_sub [0, 1, 2, 3] rfl (b_X7_findTaken_0 hw7_r0 (fun c0 c1 c2 => by unfold e_X7_findTaken at hK; rw [if_neg c0, if_pos c1, if_pos c2] at hK; exact hK) (fun c0 c1 c2 c3 => by unfold e_X7_findTaken at hK; rw [if_neg c0, if_pos c1, if_neg c2, if_pos c3] at hK; exact hK) (fun c0 c1 c2 c3 => by unfold e_X7_findTaken at hK; rw [if_neg c0, if_pos c1, if_neg c2, if_neg c3] at hK; exact hK) (fun c0 c1 => by unfold e_X7_findTaken at hK; rw [if_neg c0, if_neg c1] at hK; exact hK) (fun c0 => by unfold e_X7_findTaken at hK; rw [if_pos c0] at hK; exact hK)))
theorem d_X7_put_0 : decode cX7_put 0 = .ok (.aload_n 0, 1) := by decide +kernel
theorem d_X7_put_1 : decode cX7_put 1 = .ok (.aload_n 0, 1) := by decide +kernel
theorem d_X7_put_2 : decode cX7_put 2 = .ok (.getfield 19, 3) := by decide +kernel
theorem d_X7_put_5 : decode cX7_put 5 = .ok (.iload_n 1, 1) := by decide +kernel
theorem d_X7_put_6 : decode cX7_put 6 = .ok (.iconst 1, 1) := by decide +kernel
theorem d_X7_put_7 : decode cX7_put 7 = .ok (.invokevirtual 41, 3) := by decide +kernel
theorem d_X7_put_10 : decode cX7_put 10 = .ok (.ifCond .eq 4, 3) := by decide +kernel
theorem d_X7_put_13 : decode cX7_put 13 = .ok (.return_, 1) := by decide +kernel
theorem d_X7_put_14 : decode cX7_put 14 = .ok (.aload_n 0, 1) := by decide +kernel
theorem d_X7_put_15 : decode cX7_put 15 = .ok (.getfield 19, 3) := by decide +kernel
theorem d_X7_put_18 : decode cX7_put 18 = .ok (.ifCond .ne 14, 3) := by decide +kernel
theorem d_X7_put_21 : decode cX7_put 21 = .ok (.aload_n 0, 1) := by decide +kernel
theorem d_X7_put_22 : decode cX7_put 22 = .ok (.getfield 9, 3) := by decide +kernel
theorem d_X7_put_25 : decode cX7_put 25 = .ok (.iload_n 1, 1) := by decide +kernel
theorem d_X7_put_26 : decode cX7_put 26 = .ok (.iload_n 2, 1) := by decide +kernel
theorem d_X7_put_27 : decode cX7_put 27 = .ok (.i2b, 1) := by decide +kernel
theorem d_X7_put_28 : decode cX7_put 28 = .ok (.iastore, 1) := by decide +kernel
theorem d_X7_put_29 : decode cX7_put 29 = .ok (.goto 29, 3) := by decide +kernel
theorem d_X7_put_32 : decode cX7_put 32 = .ok (.aload_n 0, 1) := by decide +kernel
theorem d_X7_put_33 : decode cX7_put 33 = .ok (.getfield 19, 3) := by decide +kernel
theorem d_X7_put_36 : decode cX7_put 36 = .ok (.iconst 1, 1) := by decide +kernel
theorem d_X7_put_37 : decode cX7_put 37 = .ok (.if_icmp .ne 14, 3) := by decide +kernel
theorem d_X7_put_40 : decode cX7_put 40 = .ok (.aload_n 0, 1) := by decide +kernel
theorem d_X7_put_41 : decode cX7_put 41 = .ok (.getfield 9, 3) := by decide +kernel
theorem d_X7_put_44 : decode cX7_put 44 = .ok (.iload_n 1, 1) := by decide +kernel
theorem d_X7_put_45 : decode cX7_put 45 = .ok (.iload_n 2, 1) := by decide +kernel
theorem d_X7_put_46 : decode cX7_put 46 = .ok (.i2s, 1) := by decide +kernel
theorem d_X7_put_47 : decode cX7_put 47 = .ok (.iastore, 1) := by decide +kernel
theorem d_X7_put_48 : decode cX7_put 48 = .ok (.goto 10, 3) := by decide +kernel
theorem d_X7_put_51 : decode cX7_put 51 = .ok (.aload_n 0, 1) := by decide +kernel
theorem d_X7_put_52 : decode cX7_put 52 = .ok (.getfield 9, 3) := by decide +kernel
theorem d_X7_put_55 : decode cX7_put 55 = .ok (.iload_n 1, 1) := by decide +kernel
theorem d_X7_put_56 : decode cX7_put 56 = .ok (.iload_n 2, 1) := by decide +kernel
theorem d_X7_put_57 : decode cX7_put 57 = .ok (.iastore, 1) := by decide +kernel
theorem d_X7_put_58 : decode cX7_put 58 = .ok (.return_, 1) := by decide +kernel
theorem b_X7_put_0 {X : cX} {d : Nat} {μ : mM} {K : Option Value → mM → Prop} {r0 : Nat} {i1 : Nat} {l2 : Int32} (hw7_r0 : WF7 μ r0) (hb : (e_X7_findTaken μ r0 (iv μ r0 1) (nI i1) 1) = 0 → ¬ (iv μ r0 1) = 0 → ¬ (iv μ r0 1) = (1 : Int32) → i1 < 40) (hK : (e_X7_findTaken μ r0 (iv μ r0 1) (nI i1) 1) = 0 → ¬ (iv μ r0 1) = 0 → ¬ (iv μ r0 1) = (1 : Int32) → K none (wi μ (r0 + 1) i1 l2)) (hb_2 : (e_X7_findTaken μ r0 (iv μ r0 1) (nI i1) 1) = 0 → ¬ (iv μ r0 1) = 0 → (iv μ r0 1) = (1 : Int32) → i1 < 40) (hK_2 : (e_X7_findTaken μ r0 (iv μ r0 1) (nI i1) 1) = 0 → ¬ (iv μ r0 1) = 0 → (iv μ r0 1) = (1 : Int32) → K none (wi μ (r0 + 1) i1 l2.toInt16.toInt32)) (hb_3 : (e_X7_findTaken μ r0 (iv μ r0 1) (nI i1) 1) = 0 → (iv μ r0 1) = 0 → i1 < 40) (hK_3 : (e_X7_findTaken μ r0 (iv μ r0 1) (nI i1) 1) = 0 → (iv μ r0 1) = 0 → K none (wi μ (r0 + 1) i1 l2.toInt8.toInt32)) (hK_4 : ¬ (e_X7_findTaken μ r0 (iv μ r0 1) (nI i1) 1) = 0 → K none μ) : G X (Rm (d + 1)) mX7_put 0 [(0, .ref r0), (1, .int (nI i1)), (2, .int l2)] [] μ 0 0 K := by
  refine G_aload_n d_X7_put_0 rfl 0 rfl ?_
  refine G_aload_n d_X7_put_1 rfl 0 rfl ?_
  refine G_getI 7 1 (w7_kd hw7_r0) cok7 (by decide) rfl fl_X7_19 d_X7_put_2 ?_
  refine G_iload_n d_X7_put_5 rfl 1 rfl ?_
  refine G_iconst d_X7_put_6 ic_1 ?_
  refine G_callV (M' := mX7_findTaken) (R' := (Rm d)) (S := []) [.int (iv μ r0 1), .int (nI i1), .int 1] 7 (w7_kd hw7_r0) cok7 rfl ok_X7_findTaken ml_X7_41 pn_X7_findTaken (ru_Rm (by decide)) (Nat.le_of_ble_eq_true rfl) d_X7_put_7 (s_X7_findTaken (μ := μ)  hw7_r0 ?_)
  show G X (Rm (d + 1)) mX7_put 10 [(0, .ref r0), (1, .int (nI i1)), (2, .int l2)] [.int (e_X7_findTaken μ r0 (iv μ r0 1) (nI i1) 1)] μ 0 0 K
  refine G_if_eq (tgt := 14) d_X7_put_10 rfl (fun c0 => ?_) (fun c0 => ?_)
  ·
    refine G_aload_n d_X7_put_14 rfl 0 rfl ?_
    refine G_getI 7 1 (w7_kd hw7_r0) cok7 (by decide) rfl fl_X7_19 d_X7_put_15 ?_
    refine G_if_ne (tgt := 32) d_X7_put_18 rfl (fun c1 => ?_) (fun c1 => ?_)
    ·
      refine G_aload_n d_X7_put_32 rfl 0 rfl ?_
      refine G_getI 7 1 (w7_kd hw7_r0) cok7 (by decide) rfl fl_X7_19 d_X7_put_33 ?_
      refine G_iconst d_X7_put_36 ic_1 ?_
      refine G_icmp_ne (tgt := 51) d_X7_put_37 rfl (fun c2 => ?_) (fun c2 => ?_)
      ·
        refine G_aload_n d_X7_put_51 rfl 0 rfl ?_
        refine G_getR (r := r0 + 1) 7 3 (w7_kd hw7_r0) (w7_f3 hw7_r0) cok7 (by decide) rfl fl_X7_9 d_X7_put_52 ?_
        refine G_iload_n d_X7_put_55 rfl 1 rfl ?_
        refine G_iload_n d_X7_put_56 rfl 2 rfl ?_
        refine G_iast i1 (w7_k3 hw7_r0) rfl (hb c0 c1 c2) d_X7_put_57 ?_
        exact G_vret rfl rfl rfl d_X7_put_58 (hK c0 c1 c2)
      ·
        refine G_aload_n d_X7_put_40 rfl 0 rfl ?_
        refine G_getR (r := r0 + 1) 7 3 (w7_kd hw7_r0) (w7_f3 hw7_r0) cok7 (by decide) rfl fl_X7_9 d_X7_put_41 ?_
        refine G_iload_n d_X7_put_44 rfl 1 rfl ?_
        refine G_iload_n d_X7_put_45 rfl 2 rfl ?_
        refine G_i2s (v := l2.toInt16.toInt32) d_X7_put_46 rfl ?_
        refine G_iast i1 (w7_k3 hw7_r0) rfl (hb_2 c0 c1 c2) d_X7_put_47 ?_
        refine G_goto (tgt := 58) d_X7_put_48 rfl ?_
        exact G_vret rfl rfl rfl d_X7_put_58 (hK_2 c0 c1 c2)
    ·
      refine G_aload_n d_X7_put_21 rfl 0 rfl ?_
      refine G_getR (r := r0 + 1) 7 3 (w7_kd hw7_r0) (w7_f3 hw7_r0) cok7 (by decide) rfl fl_X7_9 d_X7_put_22 ?_
      refine G_iload_n d_X7_put_25 rfl 1 rfl ?_
      refine G_iload_n d_X7_put_26 rfl 2 rfl ?_
      refine G_i2b (v := l2.toInt8.toInt32) d_X7_put_27 rfl ?_
      refine G_iast i1 (w7_k3 hw7_r0) rfl (hb_3 c0 c1) d_X7_put_28 ?_
      refine G_goto (tgt := 58) d_X7_put_29 rfl ?_
      exact G_vret rfl rfl rfl d_X7_put_58 (hK_3 c0 c1)
  ·
    exact G_vret rfl rfl rfl d_X7_put_13 (hK_4 c0)
