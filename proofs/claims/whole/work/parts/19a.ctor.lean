theorem d_X0_init_0 : decode cX0_init 0 = .ok (.aload_n 0, 1) := by decide +kernel
theorem d_X0_init_1 : decode cX0_init 1 = .ok (.invokespecial 3, 3) := by decide +kernel
theorem d_X0_init_4 : decode cX0_init 4 = .ok (.aload_n 0, 1) := by decide +kernel
theorem d_X0_init_5 : decode cX0_init 5 = .ok (.bipush 6, 2) := by decide +kernel
theorem d_X0_init_7 : decode cX0_init 7 = .ok (.newarray .int, 2) := by decide +kernel
theorem d_X0_init_9 : decode cX0_init 9 = .ok (.putfield 9, 3) := by decide +kernel
theorem d_X0_init_12 : decode cX0_init 12 = .ok (.aload_n 0, 1) := by decide +kernel
theorem d_X0_init_13 : decode cX0_init 13 = .ok (.bipush 6, 2) := by decide +kernel
theorem d_X0_init_15 : decode cX0_init 15 = .ok (.newarray .int, 2) := by decide +kernel
theorem d_X0_init_17 : decode cX0_init 17 = .ok (.putfield 15, 3) := by decide +kernel
theorem d_X0_init_20 : decode cX0_init 20 = .ok (.return_, 1) := by decide +kernel
theorem b_X0_init_0 {X : cX} {R R' : Room} {cs sl : Nat} {μ : mM} {K : Option Value → mM → Prop} {r0 : Nat} (hrb : rb R cs sl) (hc1 : cs + 1 ≤ R.cells) (hs6 : sl + 6 ≤ R.slots) (h : G X R mX0_init 9 [(0, .ref r0)] [.ref (sz μ), .ref r0] (al μ (1, 6)) (cs + 1) (sl + 6) K) : G X R mX0_init 0 [(0, .ref r0)] [] μ cs sl K := by
  refine G_aload_n d_X0_init_0 rfl 0 rfl ?_
  refine G_objInit ml_X0_3 hrb (Nat.le_of_ble_eq_true rfl) d_X0_init_1 ?_
  refine G_aload_n d_X0_init_4 rfl 0 rfl ?_
  refine G_bipush d_X0_init_5 bp_6 ?_
  refine G_newI (N := 6) rfl (by decide) hc1 hs6 d_X0_init_7 ?_
  exact h
theorem b_X0_init_9 {X : cX} {R R' : Room} {cs sl : Nat} {μ : mM} {K : Option Value → mM → Prop} {r0 : Nat} {q0 : Nat} {q1 : Nat} (hk_q0 : kd μ q0 = (0, 0)) (h : G X R mX0_init 12 [(0, .ref r0)] [] (wr μ q0 0 (some q1)) cs sl K) : G X R mX0_init 9 [(0, .ref r0)] [.ref q1, .ref q0] μ cs sl K := by
  refine G_putR 0 0 hk_q0 cok0 (by decide) rfl (Or.inr ⟨rfl, rfl⟩) fl_X0_9 d_X0_init_9 ?_
  exact h
theorem b_X0_init_12 {X : cX} {R R' : Room} {cs sl : Nat} {μ : mM} {K : Option Value → mM → Prop} {r0 : Nat} (hc1 : cs + 1 ≤ R.cells) (hs6 : sl + 6 ≤ R.slots) (h : G X R mX0_init 17 [] [.ref (sz μ), .ref r0] (al μ (1, 6)) (cs + 1) (sl + 6) K) : G X R mX0_init 12 [(0, .ref r0)] [] μ cs sl K := by
  refine G_aload_n d_X0_init_12 rfl 0 rfl ?_
  refine G_bipush d_X0_init_13 bp_6 ?_
  refine G_newI (N := 6) rfl (by decide) hc1 hs6 d_X0_init_15 ?_
  refine G_sub (L' := []) [] rfl ?_
  exact h
theorem b_X0_init_17 {X : cX} {R R' : Room} {cs sl : Nat} {μ : mM} {K : Option Value → mM → Prop} {q0 : Nat} {q1 : Nat} (hk_q0 : kd μ q0 = (0, 0)) (h : G X R mX0_init 20 [] [] (wr μ q0 1 (some q1)) cs sl K) : G X R mX0_init 17 [] [.ref q1, .ref q0] μ cs sl K := by
  refine G_putR 0 1 hk_q0 cok0 (by decide) rfl (Or.inr ⟨rfl, rfl⟩) fl_X0_15 d_X0_init_17 ?_
  exact h
theorem b_X0_init_20 {X : cX} {R R' : Room} {cs sl : Nat} {μ : mM} {K : Option Value → mM → Prop}  (hK : K none μ) (hcs : cs = R.cells) (hsl : sl = R.slots) : G X R mX0_init 20 [] [] μ cs sl K := by
  exact G_vret rfl hcs hsl d_X0_init_20 hK
theorem d_X1_init_0 : decode cX1_init 0 = .ok (.aload_n 0, 1) := by decide +kernel
theorem d_X1_init_1 : decode cX1_init 1 = .ok (.invokespecial 3, 3) := by decide +kernel
theorem d_X1_init_4 : decode cX1_init 4 = .ok (.aload_n 0, 1) := by decide +kernel
theorem d_X1_init_5 : decode cX1_init 5 = .ok (.bipush 6, 2) := by decide +kernel
theorem d_X1_init_7 : decode cX1_init 7 = .ok (.newarray .int, 2) := by decide +kernel
theorem d_X1_init_9 : decode cX1_init 9 = .ok (.putfield 9, 3) := by decide +kernel
theorem d_X1_init_12 : decode cX1_init 12 = .ok (.return_, 1) := by decide +kernel
theorem b_X1_init_0 {X : cX} {R R' : Room} {cs sl : Nat} {μ : mM} {K : Option Value → mM → Prop} {r0 : Nat} (hrb : rb R cs sl) (hc1 : cs + 1 ≤ R.cells) (hs6 : sl + 6 ≤ R.slots) (h : G X R mX1_init 9 [] [.ref (sz μ), .ref r0] (al μ (1, 6)) (cs + 1) (sl + 6) K) : G X R mX1_init 0 [(0, .ref r0)] [] μ cs sl K := by
  refine G_aload_n d_X1_init_0 rfl 0 rfl ?_
  refine G_objInit ml_X1_3 hrb (Nat.le_of_ble_eq_true rfl) d_X1_init_1 ?_
  refine G_aload_n d_X1_init_4 rfl 0 rfl ?_
  refine G_bipush d_X1_init_5 bp_6 ?_
  refine G_newI (N := 6) rfl (by decide) hc1 hs6 d_X1_init_7 ?_
  refine G_sub (L' := []) [] rfl ?_
  exact h
theorem b_X1_init_9 {X : cX} {R R' : Room} {cs sl : Nat} {μ : mM} {K : Option Value → mM → Prop} {q0 : Nat} {q1 : Nat} (hk_q0 : kd μ q0 = (0, 1)) (h : G X R mX1_init 12 [] [] (wr μ q0 0 (some q1)) cs sl K) : G X R mX1_init 9 [] [.ref q1, .ref q0] μ cs sl K := by
  refine G_putR 1 0 hk_q0 cok1 (by decide) rfl (Or.inr ⟨rfl, rfl⟩) fl_X1_9 d_X1_init_9 ?_
  exact h
theorem b_X1_init_12 {X : cX} {R R' : Room} {cs sl : Nat} {μ : mM} {K : Option Value → mM → Prop}  (hK : K none μ) (hcs : cs = R.cells) (hsl : sl = R.slots) : G X R mX1_init 12 [] [] μ cs sl K := by
  exact G_vret rfl hcs hsl d_X1_init_12 hK
theorem d_X5_init_0 : decode cX5_init 0 = .ok (.aload_n 0, 1) := by decide +kernel
theorem d_X5_init_1 : decode cX5_init 1 = .ok (.invokespecial 3, 3) := by decide +kernel
theorem d_X5_init_4 : decode cX5_init 4 = .ok (.aload_n 0, 1) := by decide +kernel
theorem d_X5_init_5 : decode cX5_init 5 = .ok (.bipush 6, 2) := by decide +kernel
theorem d_X5_init_7 : decode cX5_init 7 = .ok (.newarray .boolean, 2) := by decide +kernel
theorem d_X5_init_9 : decode cX5_init 9 = .ok (.putfield 9, 3) := by decide +kernel
theorem d_X5_init_12 : decode cX5_init 12 = .ok (.aload_n 0, 1) := by decide +kernel
theorem d_X5_init_13 : decode cX5_init 13 = .ok (.iconst 3, 1) := by decide +kernel
theorem d_X5_init_14 : decode cX5_init 14 = .ok (.bipush 6, 2) := by decide +kernel
theorem d_X5_init_16 : decode cX5_init 16 = .ok (.multianewarray 15 2, 4) := by decide +kernel
theorem d_X5_init_20 : decode cX5_init 20 = .ok (.putfield 17, 3) := by decide +kernel
theorem d_X5_init_23 : decode cX5_init 23 = .ok (.aload_n 0, 1) := by decide +kernel
theorem d_X5_init_24 : decode cX5_init 24 = .ok (.bipush 6, 2) := by decide +kernel
theorem d_X5_init_26 : decode cX5_init 26 = .ok (.bipush 6, 2) := by decide +kernel
theorem d_X5_init_28 : decode cX5_init 28 = .ok (.multianewarray 15 2, 4) := by decide +kernel
theorem d_X5_init_32 : decode cX5_init 32 = .ok (.putfield 20, 3) := by decide +kernel
theorem d_X5_init_35 : decode cX5_init 35 = .ok (.aload_n 0, 1) := by decide +kernel
theorem d_X5_init_36 : decode cX5_init 36 = .ok (.bipush 6, 2) := by decide +kernel
theorem d_X5_init_38 : decode cX5_init 38 = .ok (.bipush 6, 2) := by decide +kernel
theorem d_X5_init_40 : decode cX5_init 40 = .ok (.multianewarray 15 2, 4) := by decide +kernel
theorem d_X5_init_44 : decode cX5_init 44 = .ok (.putfield 23, 3) := by decide +kernel
theorem d_X5_init_47 : decode cX5_init 47 = .ok (.aload_n 0, 1) := by decide +kernel
theorem d_X5_init_48 : decode cX5_init 48 = .ok (.iconst 3, 1) := by decide +kernel
theorem d_X5_init_49 : decode cX5_init 49 = .ok (.bipush 6, 2) := by decide +kernel
theorem d_X5_init_51 : decode cX5_init 51 = .ok (.multianewarray 15 2, 4) := by decide +kernel
theorem d_X5_init_55 : decode cX5_init 55 = .ok (.putfield 26, 3) := by decide +kernel
theorem d_X5_init_58 : decode cX5_init 58 = .ok (.return_, 1) := by decide +kernel
theorem b_X5_init_0 {X : cX} {R R' : Room} {cs sl : Nat} {μ : mM} {K : Option Value → mM → Prop} {r0 : Nat} (hrb : rb R cs sl) (hc1 : cs + 1 ≤ R.cells) (hs6 : sl + 6 ≤ R.slots) (h : G X R mX5_init 9 [(0, .ref r0)] [.ref (sz μ), .ref r0] (al μ (3, 6)) (cs + 1) (sl + 6) K) : G X R mX5_init 0 [(0, .ref r0)] [] μ cs sl K := by
  refine G_aload_n d_X5_init_0 rfl 0 rfl ?_
  refine G_objInit ml_X5_3 hrb (Nat.le_of_ble_eq_true rfl) d_X5_init_1 ?_
  refine G_aload_n d_X5_init_4 rfl 0 rfl ?_
  refine G_bipush d_X5_init_5 bp_6 ?_
  refine G_newZ (N := 6) rfl (by decide) hc1 hs6 d_X5_init_7 ?_
  exact h
theorem b_X5_init_9 {X : cX} {R R' : Room} {cs sl : Nat} {μ : mM} {K : Option Value → mM → Prop} {r0 : Nat} {q0 : Nat} {q1 : Nat} (hk_q0 : kd μ q0 = (0, 5)) (h : G X R mX5_init 12 [(0, .ref r0)] [] (wr μ q0 1 (some q1)) cs sl K) : G X R mX5_init 9 [(0, .ref r0)] [.ref q1, .ref q0] μ cs sl K := by
  refine G_putR 5 1 hk_q0 cok5 (by decide) rfl (Or.inr ⟨rfl, rfl⟩) fl_X5_9 d_X5_init_9 ?_
  exact h
theorem b_X5_init_12 {X : cX} {R R' : Room} {cs sl : Nat} {μ : mM} {K : Option Value → mM → Prop} {r0 : Nat} (hcm3 : cs + (1 + 3) ≤ R.cells) (hsm3 : sl + (3 + 3 * 6) ≤ R.slots) (h : G X R mX5_init 20 [(0, .ref r0)] [.ref (sz μ), .ref r0] (mna μ 3 6) (cs + 1 + 3) (sl + 3 + 3 * 6) K) : G X R mX5_init 12 [(0, .ref r0)] [] μ cs sl K := by
  refine G_aload_n d_X5_init_12 rfl 0 rfl ?_
  refine G_iconst d_X5_init_13 ic_3 ?_
  refine G_bipush d_X5_init_14 bp_6 ?_
  refine G_mna (N := 3) (K' := 6) rfl rfl (by decide) (by decide) cl_X5_15 hcm3 hsm3 d_X5_init_16 ?_
  exact h
theorem b_X5_init_20 {X : cX} {R R' : Room} {cs sl : Nat} {μ : mM} {K : Option Value → mM → Prop} {r0 : Nat} {q0 : Nat} {q1 : Nat} (hk_q0 : kd μ q0 = (0, 5)) (h : G X R mX5_init 23 [(0, .ref r0)] [] (wr μ q0 2 (some q1)) cs sl K) : G X R mX5_init 20 [(0, .ref r0)] [.ref q1, .ref q0] μ cs sl K := by
  refine G_putR 5 2 hk_q0 cok5 (by decide) rfl (Or.inr ⟨rfl, rfl⟩) fl_X5_17 d_X5_init_20 ?_
  exact h
theorem b_X5_init_23 {X : cX} {R R' : Room} {cs sl : Nat} {μ : mM} {K : Option Value → mM → Prop} {r0 : Nat} (hcm6 : cs + (1 + 6) ≤ R.cells) (hsm6 : sl + (6 + 6 * 6) ≤ R.slots) (h : G X R mX5_init 32 [(0, .ref r0)] [.ref (sz μ), .ref r0] (mna μ 6 6) (cs + 1 + 6) (sl + 6 + 6 * 6) K) : G X R mX5_init 23 [(0, .ref r0)] [] μ cs sl K := by
  refine G_aload_n d_X5_init_23 rfl 0 rfl ?_
  refine G_bipush d_X5_init_24 bp_6 ?_
  refine G_bipush d_X5_init_26 bp_6 ?_
  refine G_mna (N := 6) (K' := 6) rfl rfl (by decide) (by decide) cl_X5_15 hcm6 hsm6 d_X5_init_28 ?_
  exact h
theorem b_X5_init_32 {X : cX} {R R' : Room} {cs sl : Nat} {μ : mM} {K : Option Value → mM → Prop} {r0 : Nat} {q0 : Nat} {q1 : Nat} (hk_q0 : kd μ q0 = (0, 5)) (h : G X R mX5_init 35 [(0, .ref r0)] [] (wr μ q0 3 (some q1)) cs sl K) : G X R mX5_init 32 [(0, .ref r0)] [.ref q1, .ref q0] μ cs sl K := by
  refine G_putR 5 3 hk_q0 cok5 (by decide) rfl (Or.inr ⟨rfl, rfl⟩) fl_X5_20 d_X5_init_32 ?_
  exact h
theorem b_X5_init_35 {X : cX} {R R' : Room} {cs sl : Nat} {μ : mM} {K : Option Value → mM → Prop} {r0 : Nat} (hcm6 : cs + (1 + 6) ≤ R.cells) (hsm6 : sl + (6 + 6 * 6) ≤ R.slots) (h : G X R mX5_init 44 [(0, .ref r0)] [.ref (sz μ), .ref r0] (mna μ 6 6) (cs + 1 + 6) (sl + 6 + 6 * 6) K) : G X R mX5_init 35 [(0, .ref r0)] [] μ cs sl K := by
  refine G_aload_n d_X5_init_35 rfl 0 rfl ?_
  refine G_bipush d_X5_init_36 bp_6 ?_
  refine G_bipush d_X5_init_38 bp_6 ?_
  refine G_mna (N := 6) (K' := 6) rfl rfl (by decide) (by decide) cl_X5_15 hcm6 hsm6 d_X5_init_40 ?_
  exact h
theorem b_X5_init_44 {X : cX} {R R' : Room} {cs sl : Nat} {μ : mM} {K : Option Value → mM → Prop} {r0 : Nat} {q0 : Nat} {q1 : Nat} (hk_q0 : kd μ q0 = (0, 5)) (h : G X R mX5_init 47 [(0, .ref r0)] [] (wr μ q0 4 (some q1)) cs sl K) : G X R mX5_init 44 [(0, .ref r0)] [.ref q1, .ref q0] μ cs sl K := by
  refine G_putR 5 4 hk_q0 cok5 (by decide) rfl (Or.inr ⟨rfl, rfl⟩) fl_X5_23 d_X5_init_44 ?_
  exact h
theorem b_X5_init_47 {X : cX} {R R' : Room} {cs sl : Nat} {μ : mM} {K : Option Value → mM → Prop} {r0 : Nat} (hcm3 : cs + (1 + 3) ≤ R.cells) (hsm3 : sl + (3 + 3 * 6) ≤ R.slots) (h : G X R mX5_init 55 [] [.ref (sz μ), .ref r0] (mna μ 3 6) (cs + 1 + 3) (sl + 3 + 3 * 6) K) : G X R mX5_init 47 [(0, .ref r0)] [] μ cs sl K := by
  refine G_aload_n d_X5_init_47 rfl 0 rfl ?_
  refine G_iconst d_X5_init_48 ic_3 ?_
  refine G_bipush d_X5_init_49 bp_6 ?_
  refine G_mna (N := 3) (K' := 6) rfl rfl (by decide) (by decide) cl_X5_15 hcm3 hsm3 d_X5_init_51 ?_
  refine G_sub (L' := []) [] rfl ?_
  exact h
theorem b_X5_init_55 {X : cX} {R R' : Room} {cs sl : Nat} {μ : mM} {K : Option Value → mM → Prop} {q0 : Nat} {q1 : Nat} (hk_q0 : kd μ q0 = (0, 5)) (h : G X R mX5_init 58 [] [] (wr μ q0 5 (some q1)) cs sl K) : G X R mX5_init 55 [] [.ref q1, .ref q0] μ cs sl K := by
  refine G_putR 5 5 hk_q0 cok5 (by decide) rfl (Or.inr ⟨rfl, rfl⟩) fl_X5_26 d_X5_init_55 ?_
  exact h
theorem b_X5_init_58 {X : cX} {R R' : Room} {cs sl : Nat} {μ : mM} {K : Option Value → mM → Prop}  (hK : K none μ) (hcs : cs = R.cells) (hsl : sl = R.slots) : G X R mX5_init 58 [] [] μ cs sl K := by
  exact G_vret rfl hcs hsl d_X5_init_58 hK
theorem d_X2_init_0 : decode cX2_init 0 = .ok (.aload_n 0, 1) := by decide +kernel
theorem d_X2_init_1 : decode cX2_init 1 = .ok (.invokespecial 3, 3) := by decide +kernel
theorem d_X2_init_4 : decode cX2_init 4 = .ok (.aload_n 0, 1) := by decide +kernel
theorem d_X2_init_5 : decode cX2_init 5 = .ok (.new 9, 3) := by decide +kernel
theorem d_X2_init_8 : decode cX2_init 8 = .ok (.dup, 1) := by decide +kernel
theorem d_X2_init_9 : decode cX2_init 9 = .ok (.invokespecial 11, 3) := by decide +kernel
theorem d_X2_init_12 : decode cX2_init 12 = .ok (.putfield 12, 3) := by decide +kernel
theorem d_X2_init_15 : decode cX2_init 15 = .ok (.aload_n 0, 1) := by decide +kernel
theorem d_X2_init_16 : decode cX2_init 16 = .ok (.bipush 6, 2) := by decide +kernel
theorem d_X2_init_18 : decode cX2_init 18 = .ok (.newarray .int, 2) := by decide +kernel
theorem d_X2_init_20 : decode cX2_init 20 = .ok (.putfield 18, 3) := by decide +kernel
theorem d_X2_init_23 : decode cX2_init 23 = .ok (.return_, 1) := by decide +kernel
theorem b_X2_init_0 {X : cX} {R R' : Room} {cs sl : Nat} {μ : mM} {K : Option Value → mM → Prop} {r0 : Nat} (hrb : rb R cs sl) (hc1 : cs + 1 ≤ R.cells) (hs6 : sl + 6 ≤ R.slots) (h : G X R mX2_init 8 [(0, .ref r0)] [.ref (sz μ), .ref r0] (al μ (0, 5)) (cs + 1) (sl + 6) K) : G X R mX2_init 0 [(0, .ref r0)] [] μ cs sl K := by
  refine G_aload_n d_X2_init_0 rfl 0 rfl ?_
  refine G_objInit ml_X2_3 hrb (Nat.le_of_ble_eq_true rfl) d_X2_init_1 ?_
  refine G_aload_n d_X2_init_4 rfl 0 rfl ?_
  refine G_new 5 cok5 cdf5 (by decide) cl_X2_9 ins_X5 in_X5 hc1 hs6 d_X2_init_5 ?_
  exact h
theorem b_X2_init_8 {X : cX} {R R' : Room} {cs sl : Nat} {μ : mM} {K : Option Value → mM → Prop} {r0 : Nat} {q0 : Nat} {q1 : Nat} (hru : ru R R' 1 cs sl) (hc_init : Ct X R' mX5_init [.ref q1] μ (fun r μ2 => G X R mX2_init 12 [(0, .ref r0)] (r.toList ++ [.ref q1, .ref q0]) μ2 (cs + R'.cells) (sl + R'.slots) K)) : G X R mX2_init 8 [(0, .ref r0)] [.ref q1, .ref q0] μ cs sl K := by
  refine G_dup d_X2_init_8 rfl ?_
  refine G_callIN (M' := mX5_init) (R' := R') (S := [.ref q1, .ref q0]) (host := RX11) [] ok_X5_init (List.mem_of_getElem? (i := 7) rfl) pn_X5_init hru (Nat.le_of_ble_eq_true rfl) d_X2_init_9 ?_
  exact hc_init
theorem b_X2_init_12 {X : cX} {R R' : Room} {cs sl : Nat} {μ : mM} {K : Option Value → mM → Prop} {r0 : Nat} {q0 : Nat} {q1 : Nat} (hk_q0 : kd μ q0 = (0, 2)) (h : G X R mX2_init 15 [(0, .ref r0)] [] (wr μ q0 0 (some q1)) cs sl K) : G X R mX2_init 12 [(0, .ref r0)] [.ref q1, .ref q0] μ cs sl K := by
  refine G_putR 2 0 hk_q0 cok2 (by decide) rfl (Or.inr ⟨rfl, rfl⟩) fl_X2_12 d_X2_init_12 ?_
  exact h
theorem b_X2_init_15 {X : cX} {R R' : Room} {cs sl : Nat} {μ : mM} {K : Option Value → mM → Prop} {r0 : Nat} (hc1 : cs + 1 ≤ R.cells) (hs6 : sl + 6 ≤ R.slots) (h : G X R mX2_init 20 [] [.ref (sz μ), .ref r0] (al μ (1, 6)) (cs + 1) (sl + 6) K) : G X R mX2_init 15 [(0, .ref r0)] [] μ cs sl K := by
  refine G_aload_n d_X2_init_15 rfl 0 rfl ?_
  refine G_bipush d_X2_init_16 bp_6 ?_
  refine G_newI (N := 6) rfl (by decide) hc1 hs6 d_X2_init_18 ?_
  refine G_sub (L' := []) [] rfl ?_
  exact h
theorem b_X2_init_20 {X : cX} {R R' : Room} {cs sl : Nat} {μ : mM} {K : Option Value → mM → Prop} {q0 : Nat} {q1 : Nat} (hk_q0 : kd μ q0 = (0, 2)) (h : G X R mX2_init 23 [] [] (wr μ q0 1 (some q1)) cs sl K) : G X R mX2_init 20 [] [.ref q1, .ref q0] μ cs sl K := by
  refine G_putR 2 1 hk_q0 cok2 (by decide) rfl (Or.inr ⟨rfl, rfl⟩) fl_X2_18 d_X2_init_20 ?_
  exact h
theorem b_X2_init_23 {X : cX} {R R' : Room} {cs sl : Nat} {μ : mM} {K : Option Value → mM → Prop}  (hK : K none μ) (hcs : cs = R.cells) (hsl : sl = R.slots) : G X R mX2_init 23 [] [] μ cs sl K := by
  exact G_vret rfl hcs hsl d_X2_init_23 hK
theorem d_X3_init_0 : decode cX3_init 0 = .ok (.aload_n 0, 1) := by decide +kernel
theorem d_X3_init_1 : decode cX3_init 1 = .ok (.invokespecial 3, 3) := by decide +kernel
theorem d_X3_init_4 : decode cX3_init 4 = .ok (.aload_n 0, 1) := by decide +kernel
theorem d_X3_init_5 : decode cX3_init 5 = .ok (.iconst 3, 1) := by decide +kernel
theorem d_X3_init_6 : decode cX3_init 6 = .ok (.newarray .int, 2) := by decide +kernel
theorem d_X3_init_8 : decode cX3_init 8 = .ok (.putfield 9, 3) := by decide +kernel
theorem d_X3_init_11 : decode cX3_init 11 = .ok (.aload_n 0, 1) := by decide +kernel
theorem d_X3_init_12 : decode cX3_init 12 = .ok (.iconst 3, 1) := by decide +kernel
theorem d_X3_init_13 : decode cX3_init 13 = .ok (.newarray .boolean, 2) := by decide +kernel
theorem d_X3_init_15 : decode cX3_init 15 = .ok (.putfield 15, 3) := by decide +kernel
theorem d_X3_init_18 : decode cX3_init 18 = .ok (.aload_n 0, 1) := by decide +kernel
theorem d_X3_init_19 : decode cX3_init 19 = .ok (.bipush 12, 2) := by decide +kernel
theorem d_X3_init_21 : decode cX3_init 21 = .ok (.newarray .int, 2) := by decide +kernel
theorem d_X3_init_23 : decode cX3_init 23 = .ok (.putfield 19, 3) := by decide +kernel
theorem d_X3_init_26 : decode cX3_init 26 = .ok (.aload_n 0, 1) := by decide +kernel
theorem d_X3_init_27 : decode cX3_init 27 = .ok (.bipush 12, 2) := by decide +kernel
theorem d_X3_init_29 : decode cX3_init 29 = .ok (.newarray .int, 2) := by decide +kernel
theorem d_X3_init_31 : decode cX3_init 31 = .ok (.putfield 22, 3) := by decide +kernel
theorem d_X3_init_34 : decode cX3_init 34 = .ok (.aload_n 0, 1) := by decide +kernel
theorem d_X3_init_35 : decode cX3_init 35 = .ok (.bipush 12, 2) := by decide +kernel
theorem d_X3_init_37 : decode cX3_init 37 = .ok (.newarray .int, 2) := by decide +kernel
theorem d_X3_init_39 : decode cX3_init 39 = .ok (.putfield 25, 3) := by decide +kernel
theorem d_X3_init_42 : decode cX3_init 42 = .ok (.aload_n 0, 1) := by decide +kernel
theorem d_X3_init_43 : decode cX3_init 43 = .ok (.iconst 3, 1) := by decide +kernel
theorem d_X3_init_44 : decode cX3_init 44 = .ok (.newarray .int, 2) := by decide +kernel
theorem d_X3_init_46 : decode cX3_init 46 = .ok (.putfield 28, 3) := by decide +kernel
theorem d_X3_init_49 : decode cX3_init 49 = .ok (.aload_n 0, 1) := by decide +kernel
theorem d_X3_init_50 : decode cX3_init 50 = .ok (.bipush 12, 2) := by decide +kernel
theorem d_X3_init_52 : decode cX3_init 52 = .ok (.newarray .int, 2) := by decide +kernel
theorem d_X3_init_54 : decode cX3_init 54 = .ok (.putfield 31, 3) := by decide +kernel
theorem d_X3_init_57 : decode cX3_init 57 = .ok (.return_, 1) := by decide +kernel
theorem b_X3_init_0 {X : cX} {R R' : Room} {cs sl : Nat} {μ : mM} {K : Option Value → mM → Prop} {r0 : Nat} (hrb : rb R cs sl) (hc1 : cs + 1 ≤ R.cells) (hs3 : sl + 3 ≤ R.slots) (h : G X R mX3_init 8 [(0, .ref r0)] [.ref (sz μ), .ref r0] (al μ (1, 3)) (cs + 1) (sl + 3) K) : G X R mX3_init 0 [(0, .ref r0)] [] μ cs sl K := by
  refine G_aload_n d_X3_init_0 rfl 0 rfl ?_
  refine G_objInit ml_X3_3 hrb (Nat.le_of_ble_eq_true rfl) d_X3_init_1 ?_
  refine G_aload_n d_X3_init_4 rfl 0 rfl ?_
  refine G_iconst d_X3_init_5 ic_3 ?_
  refine G_newI (N := 3) rfl (by decide) hc1 hs3 d_X3_init_6 ?_
  exact h
theorem b_X3_init_8 {X : cX} {R R' : Room} {cs sl : Nat} {μ : mM} {K : Option Value → mM → Prop} {r0 : Nat} {q0 : Nat} {q1 : Nat} (hk_q0 : kd μ q0 = (0, 3)) (h : G X R mX3_init 11 [(0, .ref r0)] [] (wr μ q0 1 (some q1)) cs sl K) : G X R mX3_init 8 [(0, .ref r0)] [.ref q1, .ref q0] μ cs sl K := by
  refine G_putR 3 1 hk_q0 cok3 (by decide) rfl (Or.inr ⟨rfl, rfl⟩) fl_X3_9 d_X3_init_8 ?_
  exact h
theorem b_X3_init_11 {X : cX} {R R' : Room} {cs sl : Nat} {μ : mM} {K : Option Value → mM → Prop} {r0 : Nat} (hc1 : cs + 1 ≤ R.cells) (hs3 : sl + 3 ≤ R.slots) (h : G X R mX3_init 15 [(0, .ref r0)] [.ref (sz μ), .ref r0] (al μ (3, 3)) (cs + 1) (sl + 3) K) : G X R mX3_init 11 [(0, .ref r0)] [] μ cs sl K := by
  refine G_aload_n d_X3_init_11 rfl 0 rfl ?_
  refine G_iconst d_X3_init_12 ic_3 ?_
  refine G_newZ (N := 3) rfl (by decide) hc1 hs3 d_X3_init_13 ?_
  exact h
theorem b_X3_init_15 {X : cX} {R R' : Room} {cs sl : Nat} {μ : mM} {K : Option Value → mM → Prop} {r0 : Nat} {q0 : Nat} {q1 : Nat} (hk_q0 : kd μ q0 = (0, 3)) (h : G X R mX3_init 18 [(0, .ref r0)] [] (wr μ q0 2 (some q1)) cs sl K) : G X R mX3_init 15 [(0, .ref r0)] [.ref q1, .ref q0] μ cs sl K := by
  refine G_putR 3 2 hk_q0 cok3 (by decide) rfl (Or.inr ⟨rfl, rfl⟩) fl_X3_15 d_X3_init_15 ?_
  exact h
theorem b_X3_init_18 {X : cX} {R R' : Room} {cs sl : Nat} {μ : mM} {K : Option Value → mM → Prop} {r0 : Nat} (hc1 : cs + 1 ≤ R.cells) (hs12 : sl + 12 ≤ R.slots) (h : G X R mX3_init 23 [(0, .ref r0)] [.ref (sz μ), .ref r0] (al μ (1, 12)) (cs + 1) (sl + 12) K) : G X R mX3_init 18 [(0, .ref r0)] [] μ cs sl K := by
  refine G_aload_n d_X3_init_18 rfl 0 rfl ?_
  refine G_bipush d_X3_init_19 bp_12 ?_
  refine G_newI (N := 12) rfl (by decide) hc1 hs12 d_X3_init_21 ?_
  exact h
theorem b_X3_init_23 {X : cX} {R R' : Room} {cs sl : Nat} {μ : mM} {K : Option Value → mM → Prop} {r0 : Nat} {q0 : Nat} {q1 : Nat} (hk_q0 : kd μ q0 = (0, 3)) (h : G X R mX3_init 26 [(0, .ref r0)] [] (wr μ q0 4 (some q1)) cs sl K) : G X R mX3_init 23 [(0, .ref r0)] [.ref q1, .ref q0] μ cs sl K := by
  refine G_putR 3 4 hk_q0 cok3 (by decide) rfl (Or.inr ⟨rfl, rfl⟩) fl_X3_19 d_X3_init_23 ?_
  exact h
theorem b_X3_init_26 {X : cX} {R R' : Room} {cs sl : Nat} {μ : mM} {K : Option Value → mM → Prop} {r0 : Nat} (hc1 : cs + 1 ≤ R.cells) (hs12 : sl + 12 ≤ R.slots) (h : G X R mX3_init 31 [(0, .ref r0)] [.ref (sz μ), .ref r0] (al μ (1, 12)) (cs + 1) (sl + 12) K) : G X R mX3_init 26 [(0, .ref r0)] [] μ cs sl K := by
  refine G_aload_n d_X3_init_26 rfl 0 rfl ?_
  refine G_bipush d_X3_init_27 bp_12 ?_
  refine G_newI (N := 12) rfl (by decide) hc1 hs12 d_X3_init_29 ?_
  exact h
theorem b_X3_init_31 {X : cX} {R R' : Room} {cs sl : Nat} {μ : mM} {K : Option Value → mM → Prop} {r0 : Nat} {q0 : Nat} {q1 : Nat} (hk_q0 : kd μ q0 = (0, 3)) (h : G X R mX3_init 34 [(0, .ref r0)] [] (wr μ q0 5 (some q1)) cs sl K) : G X R mX3_init 31 [(0, .ref r0)] [.ref q1, .ref q0] μ cs sl K := by
  refine G_putR 3 5 hk_q0 cok3 (by decide) rfl (Or.inr ⟨rfl, rfl⟩) fl_X3_22 d_X3_init_31 ?_
  exact h
theorem b_X3_init_34 {X : cX} {R R' : Room} {cs sl : Nat} {μ : mM} {K : Option Value → mM → Prop} {r0 : Nat} (hc1 : cs + 1 ≤ R.cells) (hs12 : sl + 12 ≤ R.slots) (h : G X R mX3_init 39 [(0, .ref r0)] [.ref (sz μ), .ref r0] (al μ (1, 12)) (cs + 1) (sl + 12) K) : G X R mX3_init 34 [(0, .ref r0)] [] μ cs sl K := by
  refine G_aload_n d_X3_init_34 rfl 0 rfl ?_
  refine G_bipush d_X3_init_35 bp_12 ?_
  refine G_newI (N := 12) rfl (by decide) hc1 hs12 d_X3_init_37 ?_
  exact h
theorem b_X3_init_39 {X : cX} {R R' : Room} {cs sl : Nat} {μ : mM} {K : Option Value → mM → Prop} {r0 : Nat} {q0 : Nat} {q1 : Nat} (hk_q0 : kd μ q0 = (0, 3)) (h : G X R mX3_init 42 [(0, .ref r0)] [] (wr μ q0 6 (some q1)) cs sl K) : G X R mX3_init 39 [(0, .ref r0)] [.ref q1, .ref q0] μ cs sl K := by
  refine G_putR 3 6 hk_q0 cok3 (by decide) rfl (Or.inr ⟨rfl, rfl⟩) fl_X3_25 d_X3_init_39 ?_
  exact h
theorem b_X3_init_42 {X : cX} {R R' : Room} {cs sl : Nat} {μ : mM} {K : Option Value → mM → Prop} {r0 : Nat} (hc1 : cs + 1 ≤ R.cells) (hs3 : sl + 3 ≤ R.slots) (h : G X R mX3_init 46 [(0, .ref r0)] [.ref (sz μ), .ref r0] (al μ (1, 3)) (cs + 1) (sl + 3) K) : G X R mX3_init 42 [(0, .ref r0)] [] μ cs sl K := by
  refine G_aload_n d_X3_init_42 rfl 0 rfl ?_
  refine G_iconst d_X3_init_43 ic_3 ?_
  refine G_newI (N := 3) rfl (by decide) hc1 hs3 d_X3_init_44 ?_
  exact h
theorem b_X3_init_46 {X : cX} {R R' : Room} {cs sl : Nat} {μ : mM} {K : Option Value → mM → Prop} {r0 : Nat} {q0 : Nat} {q1 : Nat} (hk_q0 : kd μ q0 = (0, 3)) (h : G X R mX3_init 49 [(0, .ref r0)] [] (wr μ q0 9 (some q1)) cs sl K) : G X R mX3_init 46 [(0, .ref r0)] [.ref q1, .ref q0] μ cs sl K := by
  refine G_putR 3 9 hk_q0 cok3 (by decide) rfl (Or.inr ⟨rfl, rfl⟩) fl_X3_28 d_X3_init_46 ?_
  exact h
theorem b_X3_init_49 {X : cX} {R R' : Room} {cs sl : Nat} {μ : mM} {K : Option Value → mM → Prop} {r0 : Nat} (hc1 : cs + 1 ≤ R.cells) (hs12 : sl + 12 ≤ R.slots) (h : G X R mX3_init 54 [] [.ref (sz μ), .ref r0] (al μ (1, 12)) (cs + 1) (sl + 12) K) : G X R mX3_init 49 [(0, .ref r0)] [] μ cs sl K := by
  refine G_aload_n d_X3_init_49 rfl 0 rfl ?_
  refine G_bipush d_X3_init_50 bp_12 ?_
  refine G_newI (N := 12) rfl (by decide) hc1 hs12 d_X3_init_52 ?_
  refine G_sub (L' := []) [] rfl ?_
  exact h
theorem b_X3_init_54 {X : cX} {R R' : Room} {cs sl : Nat} {μ : mM} {K : Option Value → mM → Prop} {q0 : Nat} {q1 : Nat} (hk_q0 : kd μ q0 = (0, 3)) (h : G X R mX3_init 57 [] [] (wr μ q0 10 (some q1)) cs sl K) : G X R mX3_init 54 [] [.ref q1, .ref q0] μ cs sl K := by
  refine G_putR 3 10 hk_q0 cok3 (by decide) rfl (Or.inr ⟨rfl, rfl⟩) fl_X3_31 d_X3_init_54 ?_
  exact h
theorem b_X3_init_57 {X : cX} {R R' : Room} {cs sl : Nat} {μ : mM} {K : Option Value → mM → Prop}  (hK : K none μ) (hcs : cs = R.cells) (hsl : sl = R.slots) : G X R mX3_init 57 [] [] μ cs sl K := by
  exact G_vret rfl hcs hsl d_X3_init_57 hK
theorem d_X10_init_0 : decode cX10_init 0 = .ok (.aload_n 0, 1) := by decide +kernel
theorem d_X10_init_1 : decode cX10_init 1 = .ok (.invokespecial 3, 3) := by decide +kernel
theorem d_X10_init_4 : decode cX10_init 4 = .ok (.aload_n 0, 1) := by decide +kernel
theorem d_X10_init_5 : decode cX10_init 5 = .ok (.new 9, 3) := by decide +kernel
theorem d_X10_init_8 : decode cX10_init 8 = .ok (.dup, 1) := by decide +kernel
theorem d_X10_init_9 : decode cX10_init 9 = .ok (.invokespecial 11, 3) := by decide +kernel
theorem d_X10_init_12 : decode cX10_init 12 = .ok (.putfield 12, 3) := by decide +kernel
theorem d_X10_init_15 : decode cX10_init 15 = .ok (.aload_n 0, 1) := by decide +kernel
theorem d_X10_init_16 : decode cX10_init 16 = .ok (.iconst 4, 1) := by decide +kernel
theorem d_X10_init_17 : decode cX10_init 17 = .ok (.anewarray 18, 3) := by decide +kernel
theorem d_X10_init_20 : decode cX10_init 20 = .ok (.putfield 20, 3) := by decide +kernel
theorem d_X10_init_23 : decode cX10_init 23 = .ok (.iconst 0, 1) := by decide +kernel
theorem d_X10_init_24 : decode cX10_init 24 = .ok (.istore_n 1, 1) := by decide +kernel
theorem d_X10_init_25 : decode cX10_init 25 = .ok (.iload_n 1, 1) := by decide +kernel
theorem d_X10_init_26 : decode cX10_init 26 = .ok (.iconst 4, 1) := by decide +kernel
theorem d_X10_init_27 : decode cX10_init 27 = .ok (.if_icmp .ge 22, 3) := by decide +kernel
theorem d_X10_init_30 : decode cX10_init 30 = .ok (.aload_n 0, 1) := by decide +kernel
theorem d_X10_init_31 : decode cX10_init 31 = .ok (.getfield 20, 3) := by decide +kernel
theorem d_X10_init_34 : decode cX10_init 34 = .ok (.iload_n 1, 1) := by decide +kernel
theorem d_X10_init_35 : decode cX10_init 35 = .ok (.new 18, 3) := by decide +kernel
theorem d_X10_init_38 : decode cX10_init 38 = .ok (.dup, 1) := by decide +kernel
theorem d_X10_init_39 : decode cX10_init 39 = .ok (.invokespecial 24, 3) := by decide +kernel
theorem d_X10_init_42 : decode cX10_init 42 = .ok (.aastore, 1) := by decide +kernel
theorem d_X10_init_43 : decode cX10_init 43 = .ok (.iinc 1 1, 3) := by decide +kernel
theorem d_X10_init_46 : decode cX10_init 46 = .ok (.goto (-21), 3) := by decide +kernel
theorem d_X10_init_49 : decode cX10_init 49 = .ok (.return_, 1) := by decide +kernel
theorem b_X10_init_0 {X : cX} {R R' : Room} {cs sl : Nat} {μ : mM} {K : Option Value → mM → Prop} {r0 : Nat} (hrb : rb R cs sl) (hc1 : cs + 1 ≤ R.cells) (hs6 : sl + 6 ≤ R.slots) (h : G X R mX10_init 8 [(0, .ref r0)] [.ref (sz μ), .ref r0] (al μ (0, 5)) (cs + 1) (sl + 6) K) : G X R mX10_init 0 [(0, .ref r0)] [] μ cs sl K := by
  refine G_aload_n d_X10_init_0 rfl 0 rfl ?_
  refine G_objInit ml_X10_3 hrb (Nat.le_of_ble_eq_true rfl) d_X10_init_1 ?_
  refine G_aload_n d_X10_init_4 rfl 0 rfl ?_
  refine G_new 5 cok5 cdf5 (by decide) cl_X10_9 ins_X5 in_X5 hc1 hs6 d_X10_init_5 ?_
  exact h
theorem b_X10_init_8 {X : cX} {R R' : Room} {cs sl : Nat} {μ : mM} {K : Option Value → mM → Prop} {r0 : Nat} {q0 : Nat} {q1 : Nat} (hru : ru R R' 1 cs sl) (hc_init : Ct X R' mX5_init [.ref q1] μ (fun r μ2 => G X R mX10_init 12 [(0, .ref r0)] (r.toList ++ [.ref q1, .ref q0]) μ2 (cs + R'.cells) (sl + R'.slots) K)) : G X R mX10_init 8 [(0, .ref r0)] [.ref q1, .ref q0] μ cs sl K := by
  refine G_dup d_X10_init_8 rfl ?_
  refine G_callIN (M' := mX5_init) (R' := R') (S := [.ref q1, .ref q0]) (host := RX11) [] ok_X5_init (List.mem_of_getElem? (i := 2) rfl) pn_X5_init hru (Nat.le_of_ble_eq_true rfl) d_X10_init_9 ?_
  exact hc_init
theorem b_X10_init_12 {X : cX} {R R' : Room} {cs sl : Nat} {μ : mM} {K : Option Value → mM → Prop} {r0 : Nat} {q0 : Nat} {q1 : Nat} (hk_q0 : kd μ q0 = (0, 10)) (h : G X R mX10_init 15 [(0, .ref r0)] [] (wr μ q0 0 (some q1)) cs sl K) : G X R mX10_init 12 [(0, .ref r0)] [.ref q1, .ref q0] μ cs sl K := by
  refine G_putR 10 0 hk_q0 cok10 (by decide) rfl (Or.inr ⟨rfl, rfl⟩) fl_X10_12 d_X10_init_12 ?_
  exact h
theorem b_X10_init_15 {X : cX} {R R' : Room} {cs sl : Nat} {μ : mM} {K : Option Value → mM → Prop} {r0 : Nat} (hc1 : cs + 1 ≤ R.cells) (hs4 : sl + 4 ≤ R.slots) (h : G X R mX10_init 20 [(0, .ref r0)] [.ref (sz μ), .ref r0] (al μ (6, 4)) (cs + 1) (sl + 4) K) : G X R mX10_init 15 [(0, .ref r0)] [] μ cs sl K := by
  refine G_aload_n d_X10_init_15 rfl 0 rfl ?_
  refine G_iconst d_X10_init_16 ic_4 ?_
  refine G_newF (N := 4) rfl (by decide) cl_X10_18 hc1 hs4 d_X10_init_17 ?_
  exact h
theorem b_X10_init_20 {X : cX} {R R' : Room} {cs sl : Nat} {μ : mM} {K : Option Value → mM → Prop} {r0 : Nat} {q0 : Nat} {q1 : Nat} (hk_q0 : kd μ q0 = (0, 10)) (h : G X R mX10_init 23 [(0, .ref r0)] [] (wr μ q0 1 (some q1)) cs sl K) : G X R mX10_init 20 [(0, .ref r0)] [.ref q1, .ref q0] μ cs sl K := by
  refine G_putR 10 1 hk_q0 cok10 (by decide) rfl (Or.inr ⟨rfl, rfl⟩) fl_X10_20 d_X10_init_20 ?_
  exact h
theorem b_X10_init_23 {X : cX} {R R' : Room} {cs sl : Nat} {μ : mM} {K : Option Value → mM → Prop} {r0 : Nat} (h : G X R mX10_init 25 [(0, .ref r0), (1, .int (nI 0))] [] μ cs sl K) : G X R mX10_init 23 [(0, .ref r0)] [] μ cs sl K := by
  refine G_iconst d_X10_init_23 ic_0 ?_
  refine G_istore_n (L' := [(1, .int (nI 0)), (0, .ref r0)]) d_X10_init_24 rfl (by decide) rfl ?_
  refine G_sub (L' := [(0, .ref r0), (1, .int (nI 0))]) [1, 0] rfl ?_
  exact h
theorem b_X10_init_25 {X : cX} {R R' : Room} {cs sl : Nat} {μ : mM} {K : Option Value → mM → Prop} {r0 : Nat} {l1 : Int32} {p0 : Nat} (hK : (4 : Int32) ≤ l1 → K none μ) (hcs : cs = R.cells) (hsl : sl = R.slots) (hk_r0 : kd μ r0 = (0, 10)) (hr_p0 : rv μ r0 1 = some p0) (hc1 : cs + 1 ≤ R.cells) (hs11 : sl + 11 ≤ R.slots) (h : ¬ (4 : Int32) ≤ l1 → G X R mX10_init 38 [(0, .ref r0), (1, .int l1)] [.ref (sz μ), .int l1, .ref p0] (al μ (0, 3)) (cs + 1) (sl + 11) K) : G X R mX10_init 25 [(0, .ref r0), (1, .int l1)] [] μ cs sl K := by
  refine G_iload_n d_X10_init_25 rfl 1 rfl ?_
  refine G_iconst d_X10_init_26 ic_4 ?_
  refine G_icmp_ge (tgt := 49) d_X10_init_27 rfl (fun c0 => ?_) (fun c0 => ?_)
  ·
    exact G_vret rfl hcs hsl d_X10_init_49 (hK c0)
  ·
    refine G_aload_n d_X10_init_30 rfl 0 rfl ?_
    refine G_getR (r := p0) 10 1 hk_r0 hr_p0 cok10 (by decide) rfl fl_X10_20 d_X10_init_31 ?_
    refine G_iload_n d_X10_init_34 rfl 1 rfl ?_
    refine G_new 3 cok3 cdf3 (by decide) cl_X10_18 ins_X3 in_X3 hc1 hs11 d_X10_init_35 ?_
    exact (h c0)
theorem b_X10_init_38 {X : cX} {R R' : Room} {cs sl : Nat} {μ : mM} {K : Option Value → mM → Prop} {r0 : Nat} {l1 : Int32} {q0 : Nat} {v1 : Int32} {q2 : Nat} (hru : ru R R' 1 cs sl) (hc_init : Ct X R' mX3_init [.ref q2] μ (fun r μ2 => G X R mX10_init 42 [(0, .ref r0), (1, .int l1)] (r.toList ++ [.ref q2, .int v1, .ref q0]) μ2 (cs + R'.cells) (sl + R'.slots) K)) : G X R mX10_init 38 [(0, .ref r0), (1, .int l1)] [.ref q2, .int v1, .ref q0] μ cs sl K := by
  refine G_dup d_X10_init_38 rfl ?_
  refine G_callIN (M' := mX3_init) (R' := R') (S := [.ref q2, .int v1, .ref q0]) (host := RX11) [] ok_X3_init (List.mem_of_getElem? (i := 3) rfl) pn_X3_init hru (Nat.le_of_ble_eq_true rfl) d_X10_init_39 ?_
  exact hc_init
theorem b_X10_init_42 {X : cX} {R R' : Room} {cs sl : Nat} {μ : mM} {K : Option Value → mM → Prop} {r0 : Nat} {l1 : Int32} {q0 : Nat} {v1 : Int32} {q2 : Nat} {n0 : Nat} {j0 : Nat} (hk_q0 : kd μ q0 = (6, n0)) (hi_j0 : v1 = nI j0) (hb : j0 < n0) (hkv : kd μ q2 = (0, 3)) (h : G X R mX10_init 43 [(0, .ref r0), (1, .int l1)] [] (wr μ q0 j0 (some q2)) cs sl K) : G X R mX10_init 42 [(0, .ref r0), (1, .int l1)] [.ref q2, .int v1, .ref q0] μ cs sl K := by
  refine G_aastF j0 hk_q0 hkv hi_j0 hb d_X10_init_42 ?_
  exact h
theorem b_X10_init_43 {X : cX} {R R' : Room} {cs sl : Nat} {μ : mM} {K : Option Value → mM → Prop} {r0 : Nat} {i1 : Nat} (h : G X R mX10_init 25 [(0, .ref r0), (1, .int (nI (i1 + 1)))] [] μ cs sl K) : G X R mX10_init 43 [(0, .ref r0), (1, .int (nI i1))] [] μ cs sl K := by
  refine G_iinc (L' := [(1, .int (nI (i1 + 1))), (0, .ref r0)]) d_X10_init_43 1 rfl (inc1 i1) (by decide) rfl ?_
  refine G_goto (tgt := 25) d_X10_init_46 rfl ?_
  refine G_sub (L' := [(0, .ref r0), (1, .int (nI (i1 + 1)))]) [1, 0] rfl ?_
  exact h
theorem d_X4_init_0 : decode cX4_init 0 = .ok (.aload_n 0, 1) := by decide +kernel
theorem d_X4_init_1 : decode cX4_init 1 = .ok (.invokespecial 3, 3) := by decide +kernel
theorem d_X4_init_4 : decode cX4_init 4 = .ok (.aload_n 0, 1) := by decide +kernel
theorem d_X4_init_5 : decode cX4_init 5 = .ok (.new 9, 3) := by decide +kernel
theorem d_X4_init_8 : decode cX4_init 8 = .ok (.dup, 1) := by decide +kernel
theorem d_X4_init_9 : decode cX4_init 9 = .ok (.invokespecial 11, 3) := by decide +kernel
theorem d_X4_init_12 : decode cX4_init 12 = .ok (.putfield 12, 3) := by decide +kernel
theorem d_X4_init_15 : decode cX4_init 15 = .ok (.return_, 1) := by decide +kernel
theorem b_X4_init_0 {X : cX} {R R' : Room} {cs sl : Nat} {μ : mM} {K : Option Value → mM → Prop} {r0 : Nat} (hrb : rb R cs sl) (hc1 : cs + 1 ≤ R.cells) (hs3 : sl + 3 ≤ R.slots) (h : G X R mX4_init 8 [] [.ref (sz μ), .ref r0] (al μ (0, 10)) (cs + 1) (sl + 3) K) : G X R mX4_init 0 [(0, .ref r0)] [] μ cs sl K := by
  refine G_aload_n d_X4_init_0 rfl 0 rfl ?_
  refine G_objInit ml_X4_3 hrb (Nat.le_of_ble_eq_true rfl) d_X4_init_1 ?_
  refine G_aload_n d_X4_init_4 rfl 0 rfl ?_
  refine G_new 10 cok10 cdf10 (by decide) cl_X4_9 ins_X10 in_X10 hc1 hs3 d_X4_init_5 ?_
  refine G_sub (L' := []) [] rfl ?_
  exact h
theorem b_X4_init_8 {X : cX} {R R' : Room} {cs sl : Nat} {μ : mM} {K : Option Value → mM → Prop} {q0 : Nat} {q1 : Nat} (hru : ru R R' 2 cs sl) (hc_init : Ct X R' mX10_init [.ref q1] μ (fun r μ2 => G X R mX4_init 12 [] (r.toList ++ [.ref q1, .ref q0]) μ2 (cs + R'.cells) (sl + R'.slots) K)) : G X R mX4_init 8 [] [.ref q1, .ref q0] μ cs sl K := by
  refine G_dup d_X4_init_8 rfl ?_
  refine G_callI (M' := mX10_init) (R' := R') (S := [.ref q1, .ref q0]) [] ok_X10_init ml_X4_11 pn_X10_init hru (Nat.le_of_ble_eq_true rfl) d_X4_init_9 ?_
  exact hc_init
theorem b_X4_init_12 {X : cX} {R R' : Room} {cs sl : Nat} {μ : mM} {K : Option Value → mM → Prop} {q0 : Nat} {q1 : Nat} (hk_q0 : kd μ q0 = (0, 4)) (h : G X R mX4_init 15 [] [] (wr μ q0 0 (some q1)) cs sl K) : G X R mX4_init 12 [] [.ref q1, .ref q0] μ cs sl K := by
  refine G_putR 4 0 hk_q0 cok4 (by decide) rfl (Or.inl rfl) fl_X4_12 d_X4_init_12 ?_
  exact h
theorem b_X4_init_15 {X : cX} {R R' : Room} {cs sl : Nat} {μ : mM} {K : Option Value → mM → Prop}  (hK : K none μ) (hcs : cs = R.cells) (hsl : sl = R.slots) : G X R mX4_init 15 [] [] μ cs sl K := by
  exact G_vret rfl hcs hsl d_X4_init_15 hK
theorem d_X6_init_0 : decode cX6_init 0 = .ok (.aload_n 0, 1) := by decide +kernel
theorem d_X6_init_1 : decode cX6_init 1 = .ok (.invokespecial 3, 3) := by decide +kernel
theorem d_X6_init_4 : decode cX6_init 4 = .ok (.aload_n 0, 1) := by decide +kernel
theorem d_X6_init_5 : decode cX6_init 5 = .ok (.new 9, 3) := by decide +kernel
theorem d_X6_init_8 : decode cX6_init 8 = .ok (.dup, 1) := by decide +kernel
theorem d_X6_init_9 : decode cX6_init 9 = .ok (.invokespecial 11, 3) := by decide +kernel
theorem d_X6_init_12 : decode cX6_init 12 = .ok (.putfield 12, 3) := by decide +kernel
theorem d_X6_init_15 : decode cX6_init 15 = .ok (.return_, 1) := by decide +kernel
theorem b_X6_init_0 {X : cX} {R R' : Room} {cs sl : Nat} {μ : mM} {K : Option Value → mM → Prop} {r0 : Nat} (hrb : rb R cs sl) (hc1 : cs + 1 ≤ R.cells) (hs6 : sl + 6 ≤ R.slots) (h : G X R mX6_init 8 [] [.ref (sz μ), .ref r0] (al μ (0, 5)) (cs + 1) (sl + 6) K) : G X R mX6_init 0 [(0, .ref r0)] [] μ cs sl K := by
  refine G_aload_n d_X6_init_0 rfl 0 rfl ?_
  refine G_objInit ml_X6_3 hrb (Nat.le_of_ble_eq_true rfl) d_X6_init_1 ?_
  refine G_aload_n d_X6_init_4 rfl 0 rfl ?_
  refine G_new 5 cok5 cdf5 (by decide) cl_X6_9 ins_X5 in_X5 hc1 hs6 d_X6_init_5 ?_
  refine G_sub (L' := []) [] rfl ?_
  exact h
theorem b_X6_init_8 {X : cX} {R R' : Room} {cs sl : Nat} {μ : mM} {K : Option Value → mM → Prop} {q0 : Nat} {q1 : Nat} (hru : ru R R' 1 cs sl) (hc_init : Ct X R' mX5_init [.ref q1] μ (fun r μ2 => G X R mX6_init 12 [] (r.toList ++ [.ref q1, .ref q0]) μ2 (cs + R'.cells) (sl + R'.slots) K)) : G X R mX6_init 8 [] [.ref q1, .ref q0] μ cs sl K := by
  refine G_dup d_X6_init_8 rfl ?_
  refine G_callIN (M' := mX5_init) (R' := R') (S := [.ref q1, .ref q0]) (host := RX11) [] ok_X5_init (List.mem_of_getElem? (i := 9) rfl) pn_X5_init hru (Nat.le_of_ble_eq_true rfl) d_X6_init_9 ?_
  exact hc_init
theorem b_X6_init_12 {X : cX} {R R' : Room} {cs sl : Nat} {μ : mM} {K : Option Value → mM → Prop} {q0 : Nat} {q1 : Nat} (hk_q0 : kd μ q0 = (0, 6)) (h : G X R mX6_init 15 [] [] (wr μ q0 0 (some q1)) cs sl K) : G X R mX6_init 12 [] [.ref q1, .ref q0] μ cs sl K := by
  refine G_putR 6 0 hk_q0 cok6 (by decide) rfl (Or.inr ⟨rfl, rfl⟩) fl_X6_12 d_X6_init_12 ?_
  exact h
theorem b_X6_init_15 {X : cX} {R R' : Room} {cs sl : Nat} {μ : mM} {K : Option Value → mM → Prop}  (hK : K none μ) (hcs : cs = R.cells) (hsl : sl = R.slots) : G X R mX6_init 15 [] [] μ cs sl K := by
  exact G_vret rfl hcs hsl d_X6_init_15 hK
theorem d_X7_init_0 : decode cX7_init 0 = .ok (.aload_n 0, 1) := by decide +kernel
theorem d_X7_init_1 : decode cX7_init 1 = .ok (.invokespecial 3, 3) := by decide +kernel
theorem d_X7_init_4 : decode cX7_init 4 = .ok (.aload_n 0, 1) := by decide +kernel
theorem d_X7_init_5 : decode cX7_init 5 = .ok (.bipush 40, 2) := by decide +kernel
theorem d_X7_init_7 : decode cX7_init 7 = .ok (.newarray .int, 2) := by decide +kernel
theorem d_X7_init_9 : decode cX7_init 9 = .ok (.putfield 9, 3) := by decide +kernel
theorem d_X7_init_12 : decode cX7_init 12 = .ok (.return_, 1) := by decide +kernel
theorem b_X7_init_0 {X : cX} {R R' : Room} {cs sl : Nat} {μ : mM} {K : Option Value → mM → Prop} {r0 : Nat} (hrb : rb R cs sl) (hc1 : cs + 1 ≤ R.cells) (hs40 : sl + 40 ≤ R.slots) (h : G X R mX7_init 9 [] [.ref (sz μ), .ref r0] (al μ (1, 40)) (cs + 1) (sl + 40) K) : G X R mX7_init 0 [(0, .ref r0)] [] μ cs sl K := by
  refine G_aload_n d_X7_init_0 rfl 0 rfl ?_
  refine G_objInit ml_X7_3 hrb (Nat.le_of_ble_eq_true rfl) d_X7_init_1 ?_
  refine G_aload_n d_X7_init_4 rfl 0 rfl ?_
  refine G_bipush d_X7_init_5 bp_40 ?_
  refine G_newI (N := 40) rfl (by decide) hc1 hs40 d_X7_init_7 ?_
  refine G_sub (L' := []) [] rfl ?_
  exact h
theorem b_X7_init_9 {X : cX} {R R' : Room} {cs sl : Nat} {μ : mM} {K : Option Value → mM → Prop} {q0 : Nat} {q1 : Nat} (hk_q0 : kd μ q0 = (0, 7)) (h : G X R mX7_init 12 [] [] (wr μ q0 3 (some q1)) cs sl K) : G X R mX7_init 9 [] [.ref q1, .ref q0] μ cs sl K := by
  refine G_putR 7 3 hk_q0 cok7 (by decide) rfl (Or.inr ⟨rfl, rfl⟩) fl_X7_9 d_X7_init_9 ?_
  exact h
theorem b_X7_init_12 {X : cX} {R R' : Room} {cs sl : Nat} {μ : mM} {K : Option Value → mM → Prop}  (hK : K none μ) (hcs : cs = R.cells) (hsl : sl = R.slots) : G X R mX7_init 12 [] [] μ cs sl K := by
  exact G_vret rfl hcs hsl d_X7_init_12 hK
theorem d_X8_init_0 : decode cX8_init 0 = .ok (.aload_n 0, 1) := by decide +kernel
theorem d_X8_init_1 : decode cX8_init 1 = .ok (.invokespecial 3, 3) := by decide +kernel
theorem d_X8_init_4 : decode cX8_init 4 = .ok (.return_, 1) := by decide +kernel
theorem b_X8_init_0 {X : cX} {R R' : Room} {cs sl : Nat} {μ : mM} {K : Option Value → mM → Prop} {r0 : Nat} (hrb : rb R cs sl) (hK : K none μ) (hcs : cs = R.cells) (hsl : sl = R.slots) : G X R mX8_init 0 [(0, .ref r0)] [] μ cs sl K := by
  refine G_aload_n d_X8_init_0 rfl 0 rfl ?_
  refine G_objInit ml_X8_3 hrb (Nat.le_of_ble_eq_true rfl) d_X8_init_1 ?_
  exact G_vret rfl hcs hsl d_X8_init_4 hK
theorem d_X9_init_0 : decode cX9_init 0 = .ok (.aload_n 0, 1) := by decide +kernel
theorem d_X9_init_1 : decode cX9_init 1 = .ok (.invokespecial 3, 3) := by decide +kernel
theorem d_X9_init_4 : decode cX9_init 4 = .ok (.aload_n 0, 1) := by decide +kernel
theorem d_X9_init_5 : decode cX9_init 5 = .ok (.sipush 320, 3) := by decide +kernel
theorem d_X9_init_8 : decode cX9_init 8 = .ok (.newarray .byte, 2) := by decide +kernel
theorem d_X9_init_10 : decode cX9_init 10 = .ok (.putfield 9, 3) := by decide +kernel
theorem d_X9_init_13 : decode cX9_init 13 = .ok (.return_, 1) := by decide +kernel
theorem b_X9_init_0 {X : cX} {R R' : Room} {cs sl : Nat} {μ : mM} {K : Option Value → mM → Prop} {r0 : Nat} (hrb : rb R cs sl) (hc1 : cs + 1 ≤ R.cells) (hs320 : sl + 320 ≤ R.slots) (h : G X R mX9_init 10 [] [.ref (sz μ), .ref r0] (al μ (2, 320)) (cs + 1) (sl + 320) K) : G X R mX9_init 0 [(0, .ref r0)] [] μ cs sl K := by
  refine G_aload_n d_X9_init_0 rfl 0 rfl ?_
  refine G_objInit ml_X9_3 hrb (Nat.le_of_ble_eq_true rfl) d_X9_init_1 ?_
  refine G_aload_n d_X9_init_4 rfl 0 rfl ?_
  refine G_sipush d_X9_init_5 sp_320 ?_
  refine G_newB (N := 320) rfl (by decide) hc1 hs320 d_X9_init_8 ?_
  refine G_sub (L' := []) [] rfl ?_
  exact h
theorem b_X9_init_10 {X : cX} {R R' : Room} {cs sl : Nat} {μ : mM} {K : Option Value → mM → Prop} {q0 : Nat} {q1 : Nat} (hk_q0 : kd μ q0 = (0, 9)) (h : G X R mX9_init 13 [] [] (wr μ q0 0 (some q1)) cs sl K) : G X R mX9_init 10 [] [.ref q1, .ref q0] μ cs sl K := by
  refine G_putR 9 0 hk_q0 cok9 (by decide) rfl (Or.inr ⟨rfl, rfl⟩) fl_X9_9 d_X9_init_10 ?_
  exact h
theorem b_X9_init_13 {X : cX} {R R' : Room} {cs sl : Nat} {μ : mM} {K : Option Value → mM → Prop}  (hK : K none μ) (hcs : cs = R.cells) (hsl : sl = R.slots) : G X R mX9_init 13 [] [] μ cs sl K := by
  exact G_vret rfl hcs hsl d_X9_init_13 hK
theorem d_X11_init_0 : decode cX11_init 0 = .ok (.aload_n 0, 1) := by decide +kernel
theorem d_X11_init_1 : decode cX11_init 1 = .ok (.invokespecial 1, 3) := by decide +kernel
theorem d_X11_init_4 : decode cX11_init 4 = .ok (.aload_n 0, 1) := by decide +kernel
theorem d_X11_init_5 : decode cX11_init 5 = .ok (.new 7, 3) := by decide +kernel
theorem d_X11_init_8 : decode cX11_init 8 = .ok (.dup, 1) := by decide +kernel
theorem d_X11_init_9 : decode cX11_init 9 = .ok (.invokespecial 9, 3) := by decide +kernel
theorem d_X11_init_12 : decode cX11_init 12 = .ok (.putfield 10, 3) := by decide +kernel
theorem d_X11_init_15 : decode cX11_init 15 = .ok (.aload_n 0, 1) := by decide +kernel
theorem d_X11_init_16 : decode cX11_init 16 = .ok (.new 16, 3) := by decide +kernel
theorem d_X11_init_19 : decode cX11_init 19 = .ok (.dup, 1) := by decide +kernel
theorem d_X11_init_20 : decode cX11_init 20 = .ok (.invokespecial 18, 3) := by decide +kernel
theorem d_X11_init_23 : decode cX11_init 23 = .ok (.putfield 19, 3) := by decide +kernel
theorem d_X11_init_26 : decode cX11_init 26 = .ok (.aload_n 0, 1) := by decide +kernel
theorem d_X11_init_27 : decode cX11_init 27 = .ok (.new 23, 3) := by decide +kernel
theorem d_X11_init_30 : decode cX11_init 30 = .ok (.dup, 1) := by decide +kernel
theorem d_X11_init_31 : decode cX11_init 31 = .ok (.invokespecial 25, 3) := by decide +kernel
theorem d_X11_init_34 : decode cX11_init 34 = .ok (.putfield 26, 3) := by decide +kernel
theorem d_X11_init_37 : decode cX11_init 37 = .ok (.aload_n 0, 1) := by decide +kernel
theorem d_X11_init_38 : decode cX11_init 38 = .ok (.iconst 2, 1) := by decide +kernel
theorem d_X11_init_39 : decode cX11_init 39 = .ok (.anewarray 30, 3) := by decide +kernel
theorem d_X11_init_42 : decode cX11_init 42 = .ok (.putfield 32, 3) := by decide +kernel
theorem d_X11_init_45 : decode cX11_init 45 = .ok (.aload_n 0, 1) := by decide +kernel
theorem d_X11_init_46 : decode cX11_init 46 = .ok (.iconst 2, 1) := by decide +kernel
theorem d_X11_init_47 : decode cX11_init 47 = .ok (.newarray .boolean, 2) := by decide +kernel
theorem d_X11_init_49 : decode cX11_init 49 = .ok (.putfield 36, 3) := by decide +kernel
theorem d_X11_init_52 : decode cX11_init 52 = .ok (.aload_n 0, 1) := by decide +kernel
theorem d_X11_init_53 : decode cX11_init 53 = .ok (.iconst 4, 1) := by decide +kernel
theorem d_X11_init_54 : decode cX11_init 54 = .ok (.anewarray 40, 3) := by decide +kernel
theorem d_X11_init_57 : decode cX11_init 57 = .ok (.putfield 42, 3) := by decide +kernel
theorem d_X11_init_60 : decode cX11_init 60 = .ok (.aload_n 0, 1) := by decide +kernel
theorem d_X11_init_61 : decode cX11_init 61 = .ok (.new 30, 3) := by decide +kernel
theorem d_X11_init_64 : decode cX11_init 64 = .ok (.dup, 1) := by decide +kernel
theorem d_X11_init_65 : decode cX11_init 65 = .ok (.invokespecial 46, 3) := by decide +kernel
theorem d_X11_init_68 : decode cX11_init 68 = .ok (.putfield 47, 3) := by decide +kernel
theorem d_X11_init_71 : decode cX11_init 71 = .ok (.aload_n 0, 1) := by decide +kernel
theorem d_X11_init_72 : decode cX11_init 72 = .ok (.new 51, 3) := by decide +kernel
theorem d_X11_init_75 : decode cX11_init 75 = .ok (.dup, 1) := by decide +kernel
theorem d_X11_init_76 : decode cX11_init 76 = .ok (.invokespecial 53, 3) := by decide +kernel
theorem d_X11_init_79 : decode cX11_init 79 = .ok (.putfield 54, 3) := by decide +kernel
theorem d_X11_init_82 : decode cX11_init 82 = .ok (.aload_n 0, 1) := by decide +kernel
theorem d_X11_init_83 : decode cX11_init 83 = .ok (.new 58, 3) := by decide +kernel
theorem d_X11_init_86 : decode cX11_init 86 = .ok (.dup, 1) := by decide +kernel
theorem d_X11_init_87 : decode cX11_init 87 = .ok (.invokespecial 60, 3) := by decide +kernel
theorem d_X11_init_90 : decode cX11_init 90 = .ok (.putfield 61, 3) := by decide +kernel
theorem d_X11_init_93 : decode cX11_init 93 = .ok (.aload_n 0, 1) := by decide +kernel
theorem d_X11_init_94 : decode cX11_init 94 = .ok (.new 65, 3) := by decide +kernel
theorem d_X11_init_97 : decode cX11_init 97 = .ok (.dup, 1) := by decide +kernel
theorem d_X11_init_98 : decode cX11_init 98 = .ok (.invokespecial 67, 3) := by decide +kernel
theorem d_X11_init_101 : decode cX11_init 101 = .ok (.putfield 68, 3) := by decide +kernel
theorem d_X11_init_104 : decode cX11_init 104 = .ok (.aload_n 0, 1) := by decide +kernel
theorem d_X11_init_105 : decode cX11_init 105 = .ok (.new 72, 3) := by decide +kernel
theorem d_X11_init_108 : decode cX11_init 108 = .ok (.dup, 1) := by decide +kernel
theorem d_X11_init_109 : decode cX11_init 109 = .ok (.invokespecial 74, 3) := by decide +kernel
theorem d_X11_init_112 : decode cX11_init 112 = .ok (.putfield 75, 3) := by decide +kernel
theorem d_X11_init_115 : decode cX11_init 115 = .ok (.aload_n 0, 1) := by decide +kernel
theorem d_X11_init_116 : decode cX11_init 116 = .ok (.new 79, 3) := by decide +kernel
theorem d_X11_init_119 : decode cX11_init 119 = .ok (.dup, 1) := by decide +kernel
theorem d_X11_init_120 : decode cX11_init 120 = .ok (.invokespecial 81, 3) := by decide +kernel
theorem d_X11_init_123 : decode cX11_init 123 = .ok (.putfield 82, 3) := by decide +kernel
theorem d_X11_init_126 : decode cX11_init 126 = .ok (.iconst 0, 1) := by decide +kernel
theorem d_X11_init_127 : decode cX11_init 127 = .ok (.istore_n 1, 1) := by decide +kernel
theorem d_X11_init_128 : decode cX11_init 128 = .ok (.iload_n 1, 1) := by decide +kernel
theorem d_X11_init_129 : decode cX11_init 129 = .ok (.iconst 2, 1) := by decide +kernel
theorem d_X11_init_130 : decode cX11_init 130 = .ok (.if_icmp .ge 22, 3) := by decide +kernel
theorem d_X11_init_133 : decode cX11_init 133 = .ok (.aload_n 0, 1) := by decide +kernel
theorem d_X11_init_134 : decode cX11_init 134 = .ok (.getfield 32, 3) := by decide +kernel
theorem d_X11_init_137 : decode cX11_init 137 = .ok (.iload_n 1, 1) := by decide +kernel
theorem d_X11_init_138 : decode cX11_init 138 = .ok (.new 30, 3) := by decide +kernel
theorem d_X11_init_141 : decode cX11_init 141 = .ok (.dup, 1) := by decide +kernel
theorem d_X11_init_142 : decode cX11_init 142 = .ok (.invokespecial 46, 3) := by decide +kernel
theorem d_X11_init_145 : decode cX11_init 145 = .ok (.aastore, 1) := by decide +kernel
theorem d_X11_init_146 : decode cX11_init 146 = .ok (.iinc 1 1, 3) := by decide +kernel
theorem d_X11_init_149 : decode cX11_init 149 = .ok (.goto (-21), 3) := by decide +kernel
theorem d_X11_init_152 : decode cX11_init 152 = .ok (.iconst 0, 1) := by decide +kernel
theorem d_X11_init_153 : decode cX11_init 153 = .ok (.istore_n 1, 1) := by decide +kernel
theorem d_X11_init_154 : decode cX11_init 154 = .ok (.iload_n 1, 1) := by decide +kernel
theorem d_X11_init_155 : decode cX11_init 155 = .ok (.iconst 4, 1) := by decide +kernel
theorem d_X11_init_156 : decode cX11_init 156 = .ok (.if_icmp .ge 22, 3) := by decide +kernel
theorem d_X11_init_159 : decode cX11_init 159 = .ok (.aload_n 0, 1) := by decide +kernel
theorem d_X11_init_160 : decode cX11_init 160 = .ok (.getfield 42, 3) := by decide +kernel
theorem d_X11_init_163 : decode cX11_init 163 = .ok (.iload_n 1, 1) := by decide +kernel
theorem d_X11_init_164 : decode cX11_init 164 = .ok (.new 40, 3) := by decide +kernel
theorem d_X11_init_167 : decode cX11_init 167 = .ok (.dup, 1) := by decide +kernel
theorem d_X11_init_168 : decode cX11_init 168 = .ok (.invokespecial 86, 3) := by decide +kernel
theorem d_X11_init_171 : decode cX11_init 171 = .ok (.aastore, 1) := by decide +kernel
theorem d_X11_init_172 : decode cX11_init 172 = .ok (.iinc 1 1, 3) := by decide +kernel
theorem d_X11_init_175 : decode cX11_init 175 = .ok (.goto (-21), 3) := by decide +kernel
theorem d_X11_init_178 : decode cX11_init 178 = .ok (.return_, 1) := by decide +kernel
theorem b_X11_init_0 {X : cX} {R R' : Room} {cs sl : Nat} {μ : mM} {K : Option Value → mM → Prop} {r0 : Nat} (hrb : rb R cs sl) (hc1 : cs + 1 ≤ R.cells) (hs5 : sl + 5 ≤ R.slots) (h : G X R mX11_init 8 [(0, .ref r0)] [.ref (sz μ), .ref r0] (al μ (0, 9)) (cs + 1) (sl + 5) K) : G X R mX11_init 0 [(0, .ref r0)] [] μ cs sl K := by
  refine G_aload_n d_X11_init_0 rfl 0 rfl ?_
  refine G_objInit ml_X11_1 hrb (Nat.le_of_ble_eq_true rfl) d_X11_init_1 ?_
  refine G_aload_n d_X11_init_4 rfl 0 rfl ?_
  refine G_new 9 cok9 cdf9 (by decide) cl_X11_7 ins_X9 in_X9 hc1 hs5 d_X11_init_5 ?_
  exact h
theorem b_X11_init_8 {X : cX} {R R' : Room} {cs sl : Nat} {μ : mM} {K : Option Value → mM → Prop} {r0 : Nat} {q0 : Nat} {q1 : Nat} (hru : ru R R' 1 cs sl) (hc_init : Ct X R' mX9_init [.ref q1] μ (fun r μ2 => G X R mX11_init 12 [(0, .ref r0)] (r.toList ++ [.ref q1, .ref q0]) μ2 (cs + R'.cells) (sl + R'.slots) K)) : G X R mX11_init 8 [(0, .ref r0)] [.ref q1, .ref q0] μ cs sl K := by
  refine G_dup d_X11_init_8 rfl ?_
  refine G_callIN (M' := mX9_init) (R' := R') (S := [.ref q1, .ref q0]) (host := RX11) [] ok_X9_init (List.mem_of_getElem? (i := 0) rfl) pn_X9_init hru (Nat.le_of_ble_eq_true rfl) d_X11_init_9 ?_
  exact hc_init
theorem b_X11_init_12 {X : cX} {R R' : Room} {cs sl : Nat} {μ : mM} {K : Option Value → mM → Prop} {r0 : Nat} {q0 : Nat} {q1 : Nat} (hk_q0 : kd μ q0 = (0, 11)) (h : G X R mX11_init 15 [(0, .ref r0)] [] (wr μ q0 0 (some q1)) cs sl K) : G X R mX11_init 12 [(0, .ref r0)] [.ref q1, .ref q0] μ cs sl K := by
  refine G_putR 11 0 hk_q0 cok11 (by decide) rfl (Or.inr ⟨rfl, rfl⟩) fl_X11_10 d_X11_init_12 ?_
  exact h
theorem b_X11_init_15 {X : cX} {R R' : Room} {cs sl : Nat} {μ : mM} {K : Option Value → mM → Prop} {r0 : Nat} (hc1 : cs + 1 ≤ R.cells) (hs5 : sl + 5 ≤ R.slots) (h : G X R mX11_init 19 [(0, .ref r0)] [.ref (sz μ), .ref r0] (al μ (0, 4)) (cs + 1) (sl + 5) K) : G X R mX11_init 15 [(0, .ref r0)] [] μ cs sl K := by
  refine G_aload_n d_X11_init_15 rfl 0 rfl ?_
  refine G_new 4 cok4 cdf4 (by decide) cl_X11_16 ins_X4 in_X4 hc1 hs5 d_X11_init_16 ?_
  exact h
theorem b_X11_init_19 {X : cX} {R R' : Room} {cs sl : Nat} {μ : mM} {K : Option Value → mM → Prop} {r0 : Nat} {q0 : Nat} {q1 : Nat} (hru : ru R R' 1 cs sl) (hc_init : Ct X R' mX4_init [.ref q1] μ (fun r μ2 => G X R mX11_init 23 [(0, .ref r0)] (r.toList ++ [.ref q1, .ref q0]) μ2 (cs + R'.cells) (sl + R'.slots) K)) : G X R mX11_init 19 [(0, .ref r0)] [.ref q1, .ref q0] μ cs sl K := by
  refine G_dup d_X11_init_19 rfl ?_
  refine G_callIN (M' := mX4_init) (R' := R') (S := [.ref q1, .ref q0]) (host := RX11) [] ok_X4_init (List.mem_of_getElem? (i := 1) rfl) pn_X4_init hru (Nat.le_of_ble_eq_true rfl) d_X11_init_20 ?_
  exact hc_init
theorem b_X11_init_23 {X : cX} {R R' : Room} {cs sl : Nat} {μ : mM} {K : Option Value → mM → Prop} {r0 : Nat} {q0 : Nat} {q1 : Nat} (hk_q0 : kd μ q0 = (0, 11)) (h : G X R mX11_init 26 [(0, .ref r0)] [] (wr μ q0 1 (some q1)) cs sl K) : G X R mX11_init 23 [(0, .ref r0)] [.ref q1, .ref q0] μ cs sl K := by
  refine G_putR 11 1 hk_q0 cok11 (by decide) rfl (Or.inr ⟨rfl, rfl⟩) fl_X11_19 d_X11_init_23 ?_
  exact h
theorem b_X11_init_26 {X : cX} {R R' : Room} {cs sl : Nat} {μ : mM} {K : Option Value → mM → Prop} {r0 : Nat} (hc1 : cs + 1 ≤ R.cells) (hs3 : sl + 3 ≤ R.slots) (h : G X R mX11_init 30 [(0, .ref r0)] [.ref (sz μ), .ref r0] (al μ (0, 10)) (cs + 1) (sl + 3) K) : G X R mX11_init 26 [(0, .ref r0)] [] μ cs sl K := by
  refine G_aload_n d_X11_init_26 rfl 0 rfl ?_
  refine G_new 10 cok10 cdf10 (by decide) cl_X11_23 ins_X10 in_X10 hc1 hs3 d_X11_init_27 ?_
  exact h
theorem b_X11_init_30 {X : cX} {R R' : Room} {cs sl : Nat} {μ : mM} {K : Option Value → mM → Prop} {r0 : Nat} {q0 : Nat} {q1 : Nat} (hru : ru R R' 2 cs sl) (hc_init : Ct X R' mX10_init [.ref q1] μ (fun r μ2 => G X R mX11_init 34 [(0, .ref r0)] (r.toList ++ [.ref q1, .ref q0]) μ2 (cs + R'.cells) (sl + R'.slots) K)) : G X R mX11_init 30 [(0, .ref r0)] [.ref q1, .ref q0] μ cs sl K := by
  refine G_dup d_X11_init_30 rfl ?_
  refine G_callI (M' := mX10_init) (R' := R') (S := [.ref q1, .ref q0]) [] ok_X10_init ml_X11_25 pn_X10_init hru (Nat.le_of_ble_eq_true rfl) d_X11_init_31 ?_
  exact hc_init
theorem b_X11_init_34 {X : cX} {R R' : Room} {cs sl : Nat} {μ : mM} {K : Option Value → mM → Prop} {r0 : Nat} {q0 : Nat} {q1 : Nat} (hk_q0 : kd μ q0 = (0, 11)) (h : G X R mX11_init 37 [(0, .ref r0)] [] (wr μ q0 2 (some q1)) cs sl K) : G X R mX11_init 34 [(0, .ref r0)] [.ref q1, .ref q0] μ cs sl K := by
  refine G_putR 11 2 hk_q0 cok11 (by decide) rfl (Or.inl rfl) fl_X11_26 d_X11_init_34 ?_
  exact h
theorem b_X11_init_37 {X : cX} {R R' : Room} {cs sl : Nat} {μ : mM} {K : Option Value → mM → Prop} {r0 : Nat} (hc1 : cs + 1 ≤ R.cells) (hs2 : sl + 2 ≤ R.slots) (h : G X R mX11_init 42 [(0, .ref r0)] [.ref (sz μ), .ref r0] (al μ (5, 2)) (cs + 1) (sl + 2) K) : G X R mX11_init 37 [(0, .ref r0)] [] μ cs sl K := by
  refine G_aload_n d_X11_init_37 rfl 0 rfl ?_
  refine G_iconst d_X11_init_38 ic_2 ?_
  refine G_newS (N := 2) rfl (by decide) cl_X11_30 hc1 hs2 d_X11_init_39 ?_
  exact h
theorem b_X11_init_42 {X : cX} {R R' : Room} {cs sl : Nat} {μ : mM} {K : Option Value → mM → Prop} {r0 : Nat} {q0 : Nat} {q1 : Nat} (hk_q0 : kd μ q0 = (0, 11)) (h : G X R mX11_init 45 [(0, .ref r0)] [] (wr μ q0 4 (some q1)) cs sl K) : G X R mX11_init 42 [(0, .ref r0)] [.ref q1, .ref q0] μ cs sl K := by
  refine G_putR 11 4 hk_q0 cok11 (by decide) rfl (Or.inr ⟨rfl, rfl⟩) fl_X11_32 d_X11_init_42 ?_
  exact h
theorem b_X11_init_45 {X : cX} {R R' : Room} {cs sl : Nat} {μ : mM} {K : Option Value → mM → Prop} {r0 : Nat} (hc1 : cs + 1 ≤ R.cells) (hs2 : sl + 2 ≤ R.slots) (h : G X R mX11_init 49 [(0, .ref r0)] [.ref (sz μ), .ref r0] (al μ (3, 2)) (cs + 1) (sl + 2) K) : G X R mX11_init 45 [(0, .ref r0)] [] μ cs sl K := by
  refine G_aload_n d_X11_init_45 rfl 0 rfl ?_
  refine G_iconst d_X11_init_46 ic_2 ?_
  refine G_newZ (N := 2) rfl (by decide) hc1 hs2 d_X11_init_47 ?_
  exact h
theorem b_X11_init_49 {X : cX} {R R' : Room} {cs sl : Nat} {μ : mM} {K : Option Value → mM → Prop} {r0 : Nat} {q0 : Nat} {q1 : Nat} (hk_q0 : kd μ q0 = (0, 11)) (h : G X R mX11_init 52 [(0, .ref r0)] [] (wr μ q0 5 (some q1)) cs sl K) : G X R mX11_init 49 [(0, .ref r0)] [.ref q1, .ref q0] μ cs sl K := by
  refine G_putR 11 5 hk_q0 cok11 (by decide) rfl (Or.inr ⟨rfl, rfl⟩) fl_X11_36 d_X11_init_49 ?_
  exact h
theorem b_X11_init_52 {X : cX} {R R' : Room} {cs sl : Nat} {μ : mM} {K : Option Value → mM → Prop} {r0 : Nat} (hc1 : cs + 1 ≤ R.cells) (hs4 : sl + 4 ≤ R.slots) (h : G X R mX11_init 57 [(0, .ref r0)] [.ref (sz μ), .ref r0] (al μ (7, 4)) (cs + 1) (sl + 4) K) : G X R mX11_init 52 [(0, .ref r0)] [] μ cs sl K := by
  refine G_aload_n d_X11_init_52 rfl 0 rfl ?_
  refine G_iconst d_X11_init_53 ic_4 ?_
  refine G_newT (N := 4) rfl (by decide) cl_X11_40 hc1 hs4 d_X11_init_54 ?_
  exact h
theorem b_X11_init_57 {X : cX} {R R' : Room} {cs sl : Nat} {μ : mM} {K : Option Value → mM → Prop} {r0 : Nat} {q0 : Nat} {q1 : Nat} (hk_q0 : kd μ q0 = (0, 11)) (h : G X R mX11_init 60 [(0, .ref r0)] [] (wr μ q0 6 (some q1)) cs sl K) : G X R mX11_init 57 [(0, .ref r0)] [.ref q1, .ref q0] μ cs sl K := by
  refine G_putR 11 6 hk_q0 cok11 (by decide) rfl (Or.inr ⟨rfl, rfl⟩) fl_X11_42 d_X11_init_57 ?_
  exact h
theorem b_X11_init_60 {X : cX} {R R' : Room} {cs sl : Nat} {μ : mM} {K : Option Value → mM → Prop} {r0 : Nat} (hc1 : cs + 1 ≤ R.cells) (hs6 : sl + 6 ≤ R.slots) (h : G X R mX11_init 64 [(0, .ref r0)] [.ref (sz μ), .ref r0] (al μ (0, 5)) (cs + 1) (sl + 6) K) : G X R mX11_init 60 [(0, .ref r0)] [] μ cs sl K := by
  refine G_aload_n d_X11_init_60 rfl 0 rfl ?_
  refine G_new 5 cok5 cdf5 (by decide) cl_X11_30 ins_X5 in_X5 hc1 hs6 d_X11_init_61 ?_
  exact h
theorem b_X11_init_64 {X : cX} {R R' : Room} {cs sl : Nat} {μ : mM} {K : Option Value → mM → Prop} {r0 : Nat} {q0 : Nat} {q1 : Nat} (hru : ru R R' 1 cs sl) (hc_init : Ct X R' mX5_init [.ref q1] μ (fun r μ2 => G X R mX11_init 68 [(0, .ref r0)] (r.toList ++ [.ref q1, .ref q0]) μ2 (cs + R'.cells) (sl + R'.slots) K)) : G X R mX11_init 64 [(0, .ref r0)] [.ref q1, .ref q0] μ cs sl K := by
  refine G_dup d_X11_init_64 rfl ?_
  refine G_callIN (M' := mX5_init) (R' := R') (S := [.ref q1, .ref q0]) (host := RX11) [] ok_X5_init (List.mem_of_getElem? (i := 4) rfl) pn_X5_init hru (Nat.le_of_ble_eq_true rfl) d_X11_init_65 ?_
  exact hc_init
theorem b_X11_init_68 {X : cX} {R R' : Room} {cs sl : Nat} {μ : mM} {K : Option Value → mM → Prop} {r0 : Nat} {q0 : Nat} {q1 : Nat} (hk_q0 : kd μ q0 = (0, 11)) (h : G X R mX11_init 71 [(0, .ref r0)] [] (wr μ q0 8 (some q1)) cs sl K) : G X R mX11_init 68 [(0, .ref r0)] [.ref q1, .ref q0] μ cs sl K := by
  refine G_putR 11 8 hk_q0 cok11 (by decide) rfl (Or.inr ⟨rfl, rfl⟩) fl_X11_47 d_X11_init_68 ?_
  exact h
theorem b_X11_init_71 {X : cX} {R R' : Room} {cs sl : Nat} {μ : mM} {K : Option Value → mM → Prop} {r0 : Nat} (hc1 : cs + 1 ≤ R.cells) (hs1 : sl + 1 ≤ R.slots) (h : G X R mX11_init 75 [(0, .ref r0)] [.ref (sz μ), .ref r0] (al μ (0, 1)) (cs + 1) (sl + 1) K) : G X R mX11_init 71 [(0, .ref r0)] [] μ cs sl K := by
  refine G_aload_n d_X11_init_71 rfl 0 rfl ?_
  refine G_new 1 cok1 cdf1 (by decide) cl_X11_51 ins_X1 in_X1 hc1 hs1 d_X11_init_72 ?_
  exact h
theorem b_X11_init_75 {X : cX} {R R' : Room} {cs sl : Nat} {μ : mM} {K : Option Value → mM → Prop} {r0 : Nat} {q0 : Nat} {q1 : Nat} (hru : ru R R' 1 cs sl) (hc_init : Ct X R' mX1_init [.ref q1] μ (fun r μ2 => G X R mX11_init 79 [(0, .ref r0)] (r.toList ++ [.ref q1, .ref q0]) μ2 (cs + R'.cells) (sl + R'.slots) K)) : G X R mX11_init 75 [(0, .ref r0)] [.ref q1, .ref q0] μ cs sl K := by
  refine G_dup d_X11_init_75 rfl ?_
  refine G_callIN (M' := mX1_init) (R' := R') (S := [.ref q1, .ref q0]) (host := RX11) [] ok_X1_init (List.mem_of_getElem? (i := 5) rfl) pn_X1_init hru (Nat.le_of_ble_eq_true rfl) d_X11_init_76 ?_
  exact hc_init
theorem b_X11_init_79 {X : cX} {R R' : Room} {cs sl : Nat} {μ : mM} {K : Option Value → mM → Prop} {r0 : Nat} {q0 : Nat} {q1 : Nat} (hk_q0 : kd μ q0 = (0, 11)) (h : G X R mX11_init 82 [(0, .ref r0)] [] (wr μ q0 9 (some q1)) cs sl K) : G X R mX11_init 79 [(0, .ref r0)] [.ref q1, .ref q0] μ cs sl K := by
  refine G_putR 11 9 hk_q0 cok11 (by decide) rfl (Or.inr ⟨rfl, rfl⟩) fl_X11_54 d_X11_init_79 ?_
  exact h
theorem b_X11_init_82 {X : cX} {R R' : Room} {cs sl : Nat} {μ : mM} {K : Option Value → mM → Prop} {r0 : Nat} (hc1 : cs + 1 ≤ R.cells) (hs2 : sl + 2 ≤ R.slots) (h : G X R mX11_init 86 [(0, .ref r0)] [.ref (sz μ), .ref r0] (al μ (0, 2)) (cs + 1) (sl + 2) K) : G X R mX11_init 82 [(0, .ref r0)] [] μ cs sl K := by
  refine G_aload_n d_X11_init_82 rfl 0 rfl ?_
  refine G_new 2 cok2 cdf2 (by decide) cl_X11_58 ins_X2 in_X2 hc1 hs2 d_X11_init_83 ?_
  exact h
theorem b_X11_init_86 {X : cX} {R R' : Room} {cs sl : Nat} {μ : mM} {K : Option Value → mM → Prop} {r0 : Nat} {q0 : Nat} {q1 : Nat} (hru : ru R R' 1 cs sl) (hc_init : Ct X R' mX2_init [.ref q1] μ (fun r μ2 => G X R mX11_init 90 [(0, .ref r0)] (r.toList ++ [.ref q1, .ref q0]) μ2 (cs + R'.cells) (sl + R'.slots) K)) : G X R mX11_init 86 [(0, .ref r0)] [.ref q1, .ref q0] μ cs sl K := by
  refine G_dup d_X11_init_86 rfl ?_
  refine G_callIN (M' := mX2_init) (R' := R') (S := [.ref q1, .ref q0]) (host := RX11) [] ok_X2_init (List.mem_of_getElem? (i := 6) rfl) pn_X2_init hru (Nat.le_of_ble_eq_true rfl) d_X11_init_87 ?_
  exact hc_init
theorem b_X11_init_90 {X : cX} {R R' : Room} {cs sl : Nat} {μ : mM} {K : Option Value → mM → Prop} {r0 : Nat} {q0 : Nat} {q1 : Nat} (hk_q0 : kd μ q0 = (0, 11)) (h : G X R mX11_init 93 [(0, .ref r0)] [] (wr μ q0 10 (some q1)) cs sl K) : G X R mX11_init 90 [(0, .ref r0)] [.ref q1, .ref q0] μ cs sl K := by
  refine G_putR 11 10 hk_q0 cok11 (by decide) rfl (Or.inr ⟨rfl, rfl⟩) fl_X11_61 d_X11_init_90 ?_
  exact h
theorem b_X11_init_93 {X : cX} {R R' : Room} {cs sl : Nat} {μ : mM} {K : Option Value → mM → Prop} {r0 : Nat} (hc1 : cs + 1 ≤ R.cells) (hs3 : sl + 3 ≤ R.slots) (h : G X R mX11_init 97 [(0, .ref r0)] [.ref (sz μ), .ref r0] (al μ (0, 6)) (cs + 1) (sl + 3) K) : G X R mX11_init 93 [(0, .ref r0)] [] μ cs sl K := by
  refine G_aload_n d_X11_init_93 rfl 0 rfl ?_
  refine G_new 6 cok6 cdf6 (by decide) cl_X11_65 ins_X6 in_X6 hc1 hs3 d_X11_init_94 ?_
  exact h
theorem b_X11_init_97 {X : cX} {R R' : Room} {cs sl : Nat} {μ : mM} {K : Option Value → mM → Prop} {r0 : Nat} {q0 : Nat} {q1 : Nat} (hru : ru R R' 1 cs sl) (hc_init : Ct X R' mX6_init [.ref q1] μ (fun r μ2 => G X R mX11_init 101 [(0, .ref r0)] (r.toList ++ [.ref q1, .ref q0]) μ2 (cs + R'.cells) (sl + R'.slots) K)) : G X R mX11_init 97 [(0, .ref r0)] [.ref q1, .ref q0] μ cs sl K := by
  refine G_dup d_X11_init_97 rfl ?_
  refine G_callIN (M' := mX6_init) (R' := R') (S := [.ref q1, .ref q0]) (host := RX11) [] ok_X6_init (List.mem_of_getElem? (i := 8) rfl) pn_X6_init hru (Nat.le_of_ble_eq_true rfl) d_X11_init_98 ?_
  exact hc_init
theorem b_X11_init_101 {X : cX} {R R' : Room} {cs sl : Nat} {μ : mM} {K : Option Value → mM → Prop} {r0 : Nat} {q0 : Nat} {q1 : Nat} (hk_q0 : kd μ q0 = (0, 11)) (h : G X R mX11_init 104 [(0, .ref r0)] [] (wr μ q0 11 (some q1)) cs sl K) : G X R mX11_init 101 [(0, .ref r0)] [.ref q1, .ref q0] μ cs sl K := by
  refine G_putR 11 11 hk_q0 cok11 (by decide) rfl (Or.inr ⟨rfl, rfl⟩) fl_X11_68 d_X11_init_101 ?_
  exact h
theorem b_X11_init_104 {X : cX} {R R' : Room} {cs sl : Nat} {μ : mM} {K : Option Value → mM → Prop} {r0 : Nat} (hc1 : cs + 1 ≤ R.cells) (hs4 : sl + 4 ≤ R.slots) (h : G X R mX11_init 108 [(0, .ref r0)] [.ref (sz μ), .ref r0] (al μ (0, 8)) (cs + 1) (sl + 4) K) : G X R mX11_init 104 [(0, .ref r0)] [] μ cs sl K := by
  refine G_aload_n d_X11_init_104 rfl 0 rfl ?_
  refine G_new 8 cok8 cdf8 (by decide) cl_X11_72 ins_X8 in_X8 hc1 hs4 d_X11_init_105 ?_
  exact h
theorem b_X11_init_108 {X : cX} {R R' : Room} {cs sl : Nat} {μ : mM} {K : Option Value → mM → Prop} {r0 : Nat} {q0 : Nat} {q1 : Nat} (hru : ru R R' 1 cs sl) (hc_init : Ct X R' mX8_init [.ref q1] μ (fun r μ2 => G X R mX11_init 112 [(0, .ref r0)] (r.toList ++ [.ref q1, .ref q0]) μ2 (cs + R'.cells) (sl + R'.slots) K)) : G X R mX11_init 108 [(0, .ref r0)] [.ref q1, .ref q0] μ cs sl K := by
  refine G_dup d_X11_init_108 rfl ?_
  refine G_callIN (M' := mX8_init) (R' := R') (S := [.ref q1, .ref q0]) (host := RX11) [] ok_X8_init (List.mem_of_getElem? (i := 10) rfl) pn_X8_init hru (Nat.le_of_ble_eq_true rfl) d_X11_init_109 ?_
  exact hc_init
theorem b_X11_init_112 {X : cX} {R R' : Room} {cs sl : Nat} {μ : mM} {K : Option Value → mM → Prop} {r0 : Nat} {q0 : Nat} {q1 : Nat} (hk_q0 : kd μ q0 = (0, 11)) (h : G X R mX11_init 115 [(0, .ref r0)] [] (wr μ q0 12 (some q1)) cs sl K) : G X R mX11_init 112 [(0, .ref r0)] [.ref q1, .ref q0] μ cs sl K := by
  refine G_putR 11 12 hk_q0 cok11 (by decide) rfl (Or.inr ⟨rfl, rfl⟩) fl_X11_75 d_X11_init_112 ?_
  exact h
theorem b_X11_init_115 {X : cX} {R R' : Room} {cs sl : Nat} {μ : mM} {K : Option Value → mM → Prop} {r0 : Nat} (hc1 : cs + 1 ≤ R.cells) (hs2 : sl + 2 ≤ R.slots) (h : G X R mX11_init 119 [(0, .ref r0)] [.ref (sz μ), .ref r0] (al μ (0, 0)) (cs + 1) (sl + 2) K) : G X R mX11_init 115 [(0, .ref r0)] [] μ cs sl K := by
  refine G_aload_n d_X11_init_115 rfl 0 rfl ?_
  refine G_new 0 cok0 cdf0 (by decide) cl_X11_79 ins_X0 in_X0 hc1 hs2 d_X11_init_116 ?_
  exact h
theorem b_X11_init_119 {X : cX} {R R' : Room} {cs sl : Nat} {μ : mM} {K : Option Value → mM → Prop} {r0 : Nat} {q0 : Nat} {q1 : Nat} (hru : ru R R' 1 cs sl) (hc_init : Ct X R' mX0_init [.ref q1] μ (fun r μ2 => G X R mX11_init 123 [(0, .ref r0)] (r.toList ++ [.ref q1, .ref q0]) μ2 (cs + R'.cells) (sl + R'.slots) K)) : G X R mX11_init 119 [(0, .ref r0)] [.ref q1, .ref q0] μ cs sl K := by
  refine G_dup d_X11_init_119 rfl ?_
  refine G_callIN (M' := mX0_init) (R' := R') (S := [.ref q1, .ref q0]) (host := RX11) [] ok_X0_init (List.mem_of_getElem? (i := 11) rfl) pn_X0_init hru (Nat.le_of_ble_eq_true rfl) d_X11_init_120 ?_
  exact hc_init
theorem b_X11_init_123 {X : cX} {R R' : Room} {cs sl : Nat} {μ : mM} {K : Option Value → mM → Prop} {r0 : Nat} {q0 : Nat} {q1 : Nat} (hk_q0 : kd μ q0 = (0, 11)) (h : G X R mX11_init 126 [(0, .ref r0)] [] (wr μ q0 13 (some q1)) cs sl K) : G X R mX11_init 123 [(0, .ref r0)] [.ref q1, .ref q0] μ cs sl K := by
  refine G_putR 11 13 hk_q0 cok11 (by decide) rfl (Or.inr ⟨rfl, rfl⟩) fl_X11_82 d_X11_init_123 ?_
  exact h
theorem b_X11_init_126 {X : cX} {R R' : Room} {cs sl : Nat} {μ : mM} {K : Option Value → mM → Prop} {r0 : Nat} (h : G X R mX11_init 128 [(0, .ref r0), (1, .int (nI 0))] [] μ cs sl K) : G X R mX11_init 126 [(0, .ref r0)] [] μ cs sl K := by
  refine G_iconst d_X11_init_126 ic_0 ?_
  refine G_istore_n (L' := [(1, .int (nI 0)), (0, .ref r0)]) d_X11_init_127 rfl (by decide) rfl ?_
  refine G_sub (L' := [(0, .ref r0), (1, .int (nI 0))]) [1, 0] rfl ?_
  exact h
theorem b_X11_init_128 {X : cX} {R R' : Room} {cs sl : Nat} {μ : mM} {K : Option Value → mM → Prop} {r0 : Nat} {l1 : Int32} {p0 : Nat} (h : (2 : Int32) ≤ l1 → G X R mX11_init 154 [(0, .ref r0), (1, .int (nI 0))] [] μ cs sl K) (hk_r0 : kd μ r0 = (0, 11)) (hr_p0 : rv μ r0 4 = some p0) (hc1 : cs + 1 ≤ R.cells) (hs6 : sl + 6 ≤ R.slots) (h_2 : ¬ (2 : Int32) ≤ l1 → G X R mX11_init 141 [(0, .ref r0), (1, .int l1)] [.ref (sz μ), .int l1, .ref p0] (al μ (0, 5)) (cs + 1) (sl + 6) K) : G X R mX11_init 128 [(0, .ref r0), (1, .int l1)] [] μ cs sl K := by
  refine G_iload_n d_X11_init_128 rfl 1 rfl ?_
  refine G_iconst d_X11_init_129 ic_2 ?_
  refine G_icmp_ge (tgt := 152) d_X11_init_130 rfl (fun c0 => ?_) (fun c0 => ?_)
  ·
    refine G_iconst d_X11_init_152 ic_0 ?_
    refine G_istore_n (L' := [(1, .int (nI 0)), (0, .ref r0)]) d_X11_init_153 rfl (by decide) rfl ?_
    refine G_sub (L' := [(0, .ref r0), (1, .int (nI 0))]) [1, 0] rfl ?_
    exact (h c0)
  ·
    refine G_aload_n d_X11_init_133 rfl 0 rfl ?_
    refine G_getR (r := p0) 11 4 hk_r0 hr_p0 cok11 (by decide) rfl fl_X11_32 d_X11_init_134 ?_
    refine G_iload_n d_X11_init_137 rfl 1 rfl ?_
    refine G_new 5 cok5 cdf5 (by decide) cl_X11_30 ins_X5 in_X5 hc1 hs6 d_X11_init_138 ?_
    exact (h_2 c0)
theorem b_X11_init_141 {X : cX} {R R' : Room} {cs sl : Nat} {μ : mM} {K : Option Value → mM → Prop} {r0 : Nat} {l1 : Int32} {q0 : Nat} {v1 : Int32} {q2 : Nat} (hru : ru R R' 1 cs sl) (hc_init : Ct X R' mX5_init [.ref q2] μ (fun r μ2 => G X R mX11_init 145 [(0, .ref r0), (1, .int l1)] (r.toList ++ [.ref q2, .int v1, .ref q0]) μ2 (cs + R'.cells) (sl + R'.slots) K)) : G X R mX11_init 141 [(0, .ref r0), (1, .int l1)] [.ref q2, .int v1, .ref q0] μ cs sl K := by
  refine G_dup d_X11_init_141 rfl ?_
  refine G_callIN (M' := mX5_init) (R' := R') (S := [.ref q2, .int v1, .ref q0]) (host := RX11) [] ok_X5_init (List.mem_of_getElem? (i := 4) rfl) pn_X5_init hru (Nat.le_of_ble_eq_true rfl) d_X11_init_142 ?_
  exact hc_init
theorem b_X11_init_145 {X : cX} {R R' : Room} {cs sl : Nat} {μ : mM} {K : Option Value → mM → Prop} {r0 : Nat} {l1 : Int32} {q0 : Nat} {v1 : Int32} {q2 : Nat} {n0 : Nat} {j0 : Nat} (hk_q0 : kd μ q0 = (5, n0)) (hi_j0 : v1 = nI j0) (hb : j0 < n0) (hkv : kd μ q2 = (0, 5)) (h : G X R mX11_init 146 [(0, .ref r0), (1, .int l1)] [] (wr μ q0 j0 (some q2)) cs sl K) : G X R mX11_init 145 [(0, .ref r0), (1, .int l1)] [.ref q2, .int v1, .ref q0] μ cs sl K := by
  refine G_aastS j0 hk_q0 hkv hi_j0 hb d_X11_init_145 ?_
  exact h
theorem b_X11_init_146 {X : cX} {R R' : Room} {cs sl : Nat} {μ : mM} {K : Option Value → mM → Prop} {r0 : Nat} {i1 : Nat} (h : G X R mX11_init 128 [(0, .ref r0), (1, .int (nI (i1 + 1)))] [] μ cs sl K) : G X R mX11_init 146 [(0, .ref r0), (1, .int (nI i1))] [] μ cs sl K := by
  refine G_iinc (L' := [(1, .int (nI (i1 + 1))), (0, .ref r0)]) d_X11_init_146 1 rfl (inc1 i1) (by decide) rfl ?_
  refine G_goto (tgt := 128) d_X11_init_149 rfl ?_
  refine G_sub (L' := [(0, .ref r0), (1, .int (nI (i1 + 1)))]) [1, 0] rfl ?_
  exact h
theorem b_X11_init_154 {X : cX} {R R' : Room} {cs sl : Nat} {μ : mM} {K : Option Value → mM → Prop} {r0 : Nat} {l1 : Int32} {p0 : Nat} (hK : (4 : Int32) ≤ l1 → K none μ) (hcs : cs = R.cells) (hsl : sl = R.slots) (hk_r0 : kd μ r0 = (0, 11)) (hr_p0 : rv μ r0 6 = some p0) (hc1 : cs + 1 ≤ R.cells) (hs4 : sl + 4 ≤ R.slots) (h : ¬ (4 : Int32) ≤ l1 → G X R mX11_init 167 [(0, .ref r0), (1, .int l1)] [.ref (sz μ), .int l1, .ref p0] (al μ (0, 7)) (cs + 1) (sl + 4) K) : G X R mX11_init 154 [(0, .ref r0), (1, .int l1)] [] μ cs sl K := by
  refine G_iload_n d_X11_init_154 rfl 1 rfl ?_
  refine G_iconst d_X11_init_155 ic_4 ?_
  refine G_icmp_ge (tgt := 178) d_X11_init_156 rfl (fun c0 => ?_) (fun c0 => ?_)
  ·
    exact G_vret rfl hcs hsl d_X11_init_178 (hK c0)
  ·
    refine G_aload_n d_X11_init_159 rfl 0 rfl ?_
    refine G_getR (r := p0) 11 6 hk_r0 hr_p0 cok11 (by decide) rfl fl_X11_42 d_X11_init_160 ?_
    refine G_iload_n d_X11_init_163 rfl 1 rfl ?_
    refine G_new 7 cok7 cdf7 (by decide) cl_X11_40 ins_X7 in_X7 hc1 hs4 d_X11_init_164 ?_
    exact (h c0)
theorem b_X11_init_167 {X : cX} {R R' : Room} {cs sl : Nat} {μ : mM} {K : Option Value → mM → Prop} {r0 : Nat} {l1 : Int32} {q0 : Nat} {v1 : Int32} {q2 : Nat} (hru : ru R R' 1 cs sl) (hc_init : Ct X R' mX7_init [.ref q2] μ (fun r μ2 => G X R mX11_init 171 [(0, .ref r0), (1, .int l1)] (r.toList ++ [.ref q2, .int v1, .ref q0]) μ2 (cs + R'.cells) (sl + R'.slots) K)) : G X R mX11_init 167 [(0, .ref r0), (1, .int l1)] [.ref q2, .int v1, .ref q0] μ cs sl K := by
  refine G_dup d_X11_init_167 rfl ?_
  refine G_callIN (M' := mX7_init) (R' := R') (S := [.ref q2, .int v1, .ref q0]) (host := RX11) [] ok_X7_init (List.mem_of_getElem? (i := 12) rfl) pn_X7_init hru (Nat.le_of_ble_eq_true rfl) d_X11_init_168 ?_
  exact hc_init
theorem b_X11_init_171 {X : cX} {R R' : Room} {cs sl : Nat} {μ : mM} {K : Option Value → mM → Prop} {r0 : Nat} {l1 : Int32} {q0 : Nat} {v1 : Int32} {q2 : Nat} {n0 : Nat} {j0 : Nat} (hk_q0 : kd μ q0 = (7, n0)) (hi_j0 : v1 = nI j0) (hb : j0 < n0) (hkv : kd μ q2 = (0, 7)) (h : G X R mX11_init 172 [(0, .ref r0), (1, .int l1)] [] (wr μ q0 j0 (some q2)) cs sl K) : G X R mX11_init 171 [(0, .ref r0), (1, .int l1)] [.ref q2, .int v1, .ref q0] μ cs sl K := by
  refine G_aastT j0 hk_q0 hkv hi_j0 hb d_X11_init_171 ?_
  exact h
theorem b_X11_init_172 {X : cX} {R R' : Room} {cs sl : Nat} {μ : mM} {K : Option Value → mM → Prop} {r0 : Nat} {i1 : Nat} (h : G X R mX11_init 154 [(0, .ref r0), (1, .int (nI (i1 + 1)))] [] μ cs sl K) : G X R mX11_init 172 [(0, .ref r0), (1, .int (nI i1))] [] μ cs sl K := by
  refine G_iinc (L' := [(1, .int (nI (i1 + 1))), (0, .ref r0)]) d_X11_init_172 1 rfl (inc1 i1) (by decide) rfl ?_
  refine G_goto (tgt := 154) d_X11_init_175 rfl ?_
  refine G_sub (L' := [(0, .ref r0), (1, .int (nI (i1 + 1)))]) [1, 0] rfl ?_
  exact h
theorem d_X12_init_0 : decode cX12_init 0 = .ok (.aload_n 0, 1) := by decide +kernel
theorem d_X12_init_1 : decode cX12_init 1 = .ok (.invokespecial 1, 3) := by decide +kernel
theorem d_X12_init_4 : decode cX12_init 4 = .ok (.aload_n 0, 1) := by decide +kernel
theorem d_X12_init_5 : decode cX12_init 5 = .ok (.sipush 366, 3) := by decide +kernel
theorem d_X12_init_8 : decode cX12_init 8 = .ok (.newarray .int, 2) := by decide +kernel
theorem d_X12_init_10 : decode cX12_init 10 = .ok (.putfield 7, 3) := by decide +kernel
theorem d_X12_init_13 : decode cX12_init 13 = .ok (.aload_n 0, 1) := by decide +kernel
theorem d_X12_init_14 : decode cX12_init 14 = .ok (.sipush 192, 3) := by decide +kernel
theorem d_X12_init_17 : decode cX12_init 17 = .ok (.newarray .int, 2) := by decide +kernel
theorem d_X12_init_19 : decode cX12_init 19 = .ok (.putfield 13, 3) := by decide +kernel
theorem d_X12_init_22 : decode cX12_init 22 = .ok (.aload_n 0, 1) := by decide +kernel
theorem d_X12_init_23 : decode cX12_init 23 = .ok (.sipush 192, 3) := by decide +kernel
theorem d_X12_init_26 : decode cX12_init 26 = .ok (.newarray .int, 2) := by decide +kernel
theorem d_X12_init_28 : decode cX12_init 28 = .ok (.putfield 16, 3) := by decide +kernel
theorem d_X12_init_31 : decode cX12_init 31 = .ok (.aload_n 0, 1) := by decide +kernel
theorem d_X12_init_32 : decode cX12_init 32 = .ok (.sipush 320, 3) := by decide +kernel
theorem d_X12_init_35 : decode cX12_init 35 = .ok (.newarray .int, 2) := by decide +kernel
theorem d_X12_init_37 : decode cX12_init 37 = .ok (.putfield 19, 3) := by decide +kernel
theorem d_X12_init_40 : decode cX12_init 40 = .ok (.aload_n 0, 1) := by decide +kernel
theorem d_X12_init_41 : decode cX12_init 41 = .ok (.bipush 14, 2) := by decide +kernel
theorem d_X12_init_43 : decode cX12_init 43 = .ok (.newarray .int, 2) := by decide +kernel
theorem d_X12_init_45 : decode cX12_init 45 = .ok (.dup, 1) := by decide +kernel
theorem d_X12_init_46 : decode cX12_init 46 = .ok (.iconst 0, 1) := by decide +kernel
theorem d_X12_init_47 : decode cX12_init 47 = .ok (.iconst 0, 1) := by decide +kernel
theorem d_X12_init_48 : decode cX12_init 48 = .ok (.iastore, 1) := by decide +kernel
theorem d_X12_init_49 : decode cX12_init 49 = .ok (.dup, 1) := by decide +kernel
theorem d_X12_init_50 : decode cX12_init 50 = .ok (.iconst 1, 1) := by decide +kernel
theorem d_X12_init_51 : decode cX12_init 51 = .ok (.iconst 2, 1) := by decide +kernel
theorem d_X12_init_52 : decode cX12_init 52 = .ok (.iastore, 1) := by decide +kernel
theorem d_X12_init_53 : decode cX12_init 53 = .ok (.dup, 1) := by decide +kernel
theorem d_X12_init_54 : decode cX12_init 54 = .ok (.iconst 2, 1) := by decide +kernel
theorem d_X12_init_55 : decode cX12_init 55 = .ok (.bipush 7, 2) := by decide +kernel
theorem d_X12_init_57 : decode cX12_init 57 = .ok (.iastore, 1) := by decide +kernel
theorem d_X12_init_58 : decode cX12_init 58 = .ok (.dup, 1) := by decide +kernel
theorem d_X12_init_59 : decode cX12_init 59 = .ok (.iconst 3, 1) := by decide +kernel
theorem d_X12_init_60 : decode cX12_init 60 = .ok (.bipush 11, 2) := by decide +kernel
theorem d_X12_init_62 : decode cX12_init 62 = .ok (.iastore, 1) := by decide +kernel
theorem d_X12_init_63 : decode cX12_init 63 = .ok (.dup, 1) := by decide +kernel
theorem d_X12_init_64 : decode cX12_init 64 = .ok (.iconst 4, 1) := by decide +kernel
theorem d_X12_init_65 : decode cX12_init 65 = .ok (.bipush 15, 2) := by decide +kernel
theorem d_X12_init_67 : decode cX12_init 67 = .ok (.iastore, 1) := by decide +kernel
theorem d_X12_init_68 : decode cX12_init 68 = .ok (.dup, 1) := by decide +kernel
theorem d_X12_init_69 : decode cX12_init 69 = .ok (.iconst 5, 1) := by decide +kernel
theorem d_X12_init_70 : decode cX12_init 70 = .ok (.bipush 19, 2) := by decide +kernel
theorem d_X12_init_72 : decode cX12_init 72 = .ok (.iastore, 1) := by decide +kernel
theorem d_X12_init_73 : decode cX12_init 73 = .ok (.dup, 1) := by decide +kernel
theorem d_X12_init_74 : decode cX12_init 74 = .ok (.bipush 6, 2) := by decide +kernel
theorem d_X12_init_76 : decode cX12_init 76 = .ok (.bipush 22, 2) := by decide +kernel
theorem d_X12_init_78 : decode cX12_init 78 = .ok (.iastore, 1) := by decide +kernel
theorem d_X12_init_79 : decode cX12_init 79 = .ok (.dup, 1) := by decide +kernel
theorem d_X12_init_80 : decode cX12_init 80 = .ok (.bipush 7, 2) := by decide +kernel
theorem d_X12_init_82 : decode cX12_init 82 = .ok (.bipush 25, 2) := by decide +kernel
theorem d_X12_init_84 : decode cX12_init 84 = .ok (.iastore, 1) := by decide +kernel
theorem d_X12_init_85 : decode cX12_init 85 = .ok (.dup, 1) := by decide +kernel
theorem d_X12_init_86 : decode cX12_init 86 = .ok (.bipush 8, 2) := by decide +kernel
theorem d_X12_init_88 : decode cX12_init 88 = .ok (.bipush 27, 2) := by decide +kernel
theorem d_X12_init_90 : decode cX12_init 90 = .ok (.iastore, 1) := by decide +kernel
theorem d_X12_init_91 : decode cX12_init 91 = .ok (.dup, 1) := by decide +kernel
theorem d_X12_init_92 : decode cX12_init 92 = .ok (.bipush 9, 2) := by decide +kernel
theorem d_X12_init_94 : decode cX12_init 94 = .ok (.bipush 31, 2) := by decide +kernel
theorem d_X12_init_96 : decode cX12_init 96 = .ok (.iastore, 1) := by decide +kernel
theorem d_X12_init_97 : decode cX12_init 97 = .ok (.dup, 1) := by decide +kernel
theorem d_X12_init_98 : decode cX12_init 98 = .ok (.bipush 10, 2) := by decide +kernel
theorem d_X12_init_100 : decode cX12_init 100 = .ok (.bipush 34, 2) := by decide +kernel
theorem d_X12_init_102 : decode cX12_init 102 = .ok (.iastore, 1) := by decide +kernel
theorem d_X12_init_103 : decode cX12_init 103 = .ok (.dup, 1) := by decide +kernel
theorem d_X12_init_104 : decode cX12_init 104 = .ok (.bipush 11, 2) := by decide +kernel
theorem d_X12_init_106 : decode cX12_init 106 = .ok (.bipush 39, 2) := by decide +kernel
theorem d_X12_init_108 : decode cX12_init 108 = .ok (.iastore, 1) := by decide +kernel
theorem d_X12_init_109 : decode cX12_init 109 = .ok (.dup, 1) := by decide +kernel
theorem d_X12_init_110 : decode cX12_init 110 = .ok (.bipush 12, 2) := by decide +kernel
theorem d_X12_init_112 : decode cX12_init 112 = .ok (.bipush 42, 2) := by decide +kernel
theorem d_X12_init_114 : decode cX12_init 114 = .ok (.iastore, 1) := by decide +kernel
theorem d_X12_init_115 : decode cX12_init 115 = .ok (.dup, 1) := by decide +kernel
theorem d_X12_init_116 : decode cX12_init 116 = .ok (.bipush 13, 2) := by decide +kernel
theorem d_X12_init_118 : decode cX12_init 118 = .ok (.bipush 46, 2) := by decide +kernel
theorem d_X12_init_120 : decode cX12_init 120 = .ok (.iastore, 1) := by decide +kernel
theorem d_X12_init_121 : decode cX12_init 121 = .ok (.putfield 22, 3) := by decide +kernel
theorem d_X12_init_124 : decode cX12_init 124 = .ok (.aload_n 0, 1) := by decide +kernel
theorem d_X12_init_125 : decode cX12_init 125 = .ok (.bipush 46, 2) := by decide +kernel
theorem d_X12_init_127 : decode cX12_init 127 = .ok (.newarray .int, 2) := by decide +kernel
theorem d_X12_init_129 : decode cX12_init 129 = .ok (.dup, 1) := by decide +kernel
theorem d_X12_init_130 : decode cX12_init 130 = .ok (.iconst 0, 1) := by decide +kernel
theorem d_X12_init_131 : decode cX12_init 131 = .ok (.bipush 97, 2) := by decide +kernel
theorem d_X12_init_133 : decode cX12_init 133 = .ok (.iastore, 1) := by decide +kernel
theorem d_X12_init_134 : decode cX12_init 134 = .ok (.dup, 1) := by decide +kernel
theorem d_X12_init_135 : decode cX12_init 135 = .ok (.iconst 1, 1) := by decide +kernel
theorem d_X12_init_136 : decode cX12_init 136 = .ok (.bipush 116, 2) := by decide +kernel
theorem d_X12_init_138 : decode cX12_init 138 = .ok (.iastore, 1) := by decide +kernel
theorem d_X12_init_139 : decode cX12_init 139 = .ok (.dup, 1) := by decide +kernel
theorem d_X12_init_140 : decode cX12_init 140 = .ok (.iconst 2, 1) := by decide +kernel
theorem d_X12_init_141 : decode cX12_init 141 = .ok (.bipush 114, 2) := by decide +kernel
theorem d_X12_init_143 : decode cX12_init 143 = .ok (.iastore, 1) := by decide +kernel
theorem d_X12_init_144 : decode cX12_init 144 = .ok (.dup, 1) := by decide +kernel
theorem d_X12_init_145 : decode cX12_init 145 = .ok (.iconst 3, 1) := by decide +kernel
theorem d_X12_init_146 : decode cX12_init 146 = .ok (.bipush 101, 2) := by decide +kernel
theorem d_X12_init_148 : decode cX12_init 148 = .ok (.iastore, 1) := by decide +kernel
theorem d_X12_init_149 : decode cX12_init 149 = .ok (.dup, 1) := by decide +kernel
theorem d_X12_init_150 : decode cX12_init 150 = .ok (.iconst 4, 1) := by decide +kernel
theorem d_X12_init_151 : decode cX12_init 151 = .ok (.bipush 97, 2) := by decide +kernel
theorem d_X12_init_153 : decode cX12_init 153 = .ok (.iastore, 1) := by decide +kernel
theorem d_X12_init_154 : decode cX12_init 154 = .ok (.dup, 1) := by decide +kernel
theorem d_X12_init_155 : decode cX12_init 155 = .ok (.iconst 5, 1) := by decide +kernel
theorem d_X12_init_156 : decode cX12_init 156 = .ok (.bipush 99, 2) := by decide +kernel
theorem d_X12_init_158 : decode cX12_init 158 = .ok (.iastore, 1) := by decide +kernel
theorem d_X12_init_159 : decode cX12_init 159 = .ok (.dup, 1) := by decide +kernel
theorem d_X12_init_160 : decode cX12_init 160 = .ok (.bipush 6, 2) := by decide +kernel
theorem d_X12_init_162 : decode cX12_init 162 = .ok (.bipush 104, 2) := by decide +kernel
theorem d_X12_init_164 : decode cX12_init 164 = .ok (.iastore, 1) := by decide +kernel
theorem d_X12_init_165 : decode cX12_init 165 = .ok (.dup, 1) := by decide +kernel
theorem d_X12_init_166 : decode cX12_init 166 = .ok (.bipush 7, 2) := by decide +kernel
theorem d_X12_init_168 : decode cX12_init 168 = .ok (.bipush 110, 2) := by decide +kernel
theorem d_X12_init_170 : decode cX12_init 170 = .ok (.iastore, 1) := by decide +kernel
theorem d_X12_init_171 : decode cX12_init 171 = .ok (.dup, 1) := by decide +kernel
theorem d_X12_init_172 : decode cX12_init 172 = .ok (.bipush 8, 2) := by decide +kernel
theorem d_X12_init_174 : decode cX12_init 174 = .ok (.bipush 101, 2) := by decide +kernel
theorem d_X12_init_176 : decode cX12_init 176 = .ok (.iastore, 1) := by decide +kernel
theorem d_X12_init_177 : decode cX12_init 177 = .ok (.dup, 1) := by decide +kernel
theorem d_X12_init_178 : decode cX12_init 178 = .ok (.bipush 9, 2) := by decide +kernel
theorem d_X12_init_180 : decode cX12_init 180 = .ok (.bipush 120, 2) := by decide +kernel
theorem d_X12_init_182 : decode cX12_init 182 = .ok (.iastore, 1) := by decide +kernel
theorem d_X12_init_183 : decode cX12_init 183 = .ok (.dup, 1) := by decide +kernel
theorem d_X12_init_184 : decode cX12_init 184 = .ok (.bipush 10, 2) := by decide +kernel
theorem d_X12_init_186 : decode cX12_init 186 = .ok (.bipush 116, 2) := by decide +kernel
theorem d_X12_init_188 : decode cX12_init 188 = .ok (.iastore, 1) := by decide +kernel
theorem d_X12_init_189 : decode cX12_init 189 = .ok (.dup, 1) := by decide +kernel
theorem d_X12_init_190 : decode cX12_init 190 = .ok (.bipush 11, 2) := by decide +kernel
theorem d_X12_init_192 : decode cX12_init 192 = .ok (.bipush 115, 2) := by decide +kernel
theorem d_X12_init_194 : decode cX12_init 194 = .ok (.iastore, 1) := by decide +kernel
theorem d_X12_init_195 : decode cX12_init 195 = .ok (.dup, 1) := by decide +kernel
theorem d_X12_init_196 : decode cX12_init 196 = .ok (.bipush 12, 2) := by decide +kernel
theorem d_X12_init_198 : decode cX12_init 198 = .ok (.bipush 97, 2) := by decide +kernel
theorem d_X12_init_200 : decode cX12_init 200 = .ok (.iastore, 1) := by decide +kernel
theorem d_X12_init_201 : decode cX12_init 201 = .ok (.dup, 1) := by decide +kernel
theorem d_X12_init_202 : decode cX12_init 202 = .ok (.bipush 13, 2) := by decide +kernel
theorem d_X12_init_204 : decode cX12_init 204 = .ok (.bipush 109, 2) := by decide +kernel
theorem d_X12_init_206 : decode cX12_init 206 = .ok (.iastore, 1) := by decide +kernel
theorem d_X12_init_207 : decode cX12_init 207 = .ok (.dup, 1) := by decide +kernel
theorem d_X12_init_208 : decode cX12_init 208 = .ok (.bipush 14, 2) := by decide +kernel
theorem d_X12_init_210 : decode cX12_init 210 = .ok (.bipush 101, 2) := by decide +kernel
theorem d_X12_init_212 : decode cX12_init 212 = .ok (.iastore, 1) := by decide +kernel
theorem d_X12_init_213 : decode cX12_init 213 = .ok (.dup, 1) := by decide +kernel
theorem d_X12_init_214 : decode cX12_init 214 = .ok (.bipush 15, 2) := by decide +kernel
theorem d_X12_init_216 : decode cX12_init 216 = .ok (.bipush 109, 2) := by decide +kernel
theorem d_X12_init_218 : decode cX12_init 218 = .ok (.iastore, 1) := by decide +kernel
theorem d_X12_init_219 : decode cX12_init 219 = .ok (.dup, 1) := by decide +kernel
theorem d_X12_init_220 : decode cX12_init 220 = .ok (.bipush 16, 2) := by decide +kernel
theorem d_X12_init_222 : decode cX12_init 222 = .ok (.bipush 97, 2) := by decide +kernel
theorem d_X12_init_224 : decode cX12_init 224 = .ok (.iastore, 1) := by decide +kernel
theorem d_X12_init_225 : decode cX12_init 225 = .ok (.dup, 1) := by decide +kernel
theorem d_X12_init_226 : decode cX12_init 226 = .ok (.bipush 17, 2) := by decide +kernel
theorem d_X12_init_228 : decode cX12_init 228 = .ok (.bipush 110, 2) := by decide +kernel
theorem d_X12_init_230 : decode cX12_init 230 = .ok (.iastore, 1) := by decide +kernel
theorem d_X12_init_231 : decode cX12_init 231 = .ok (.dup, 1) := by decide +kernel
theorem d_X12_init_232 : decode cX12_init 232 = .ok (.bipush 18, 2) := by decide +kernel
theorem d_X12_init_234 : decode cX12_init 234 = .ok (.bipush 121, 2) := by decide +kernel
theorem d_X12_init_236 : decode cX12_init 236 = .ok (.iastore, 1) := by decide +kernel
theorem d_X12_init_237 : decode cX12_init 237 = .ok (.dup, 1) := by decide +kernel
theorem d_X12_init_238 : decode cX12_init 238 = .ok (.bipush 19, 2) := by decide +kernel
theorem d_X12_init_240 : decode cX12_init 240 = .ok (.bipush 110, 2) := by decide +kernel
theorem d_X12_init_242 : decode cX12_init 242 = .ok (.iastore, 1) := by decide +kernel
theorem d_X12_init_243 : decode cX12_init 243 = .ok (.dup, 1) := by decide +kernel
theorem d_X12_init_244 : decode cX12_init 244 = .ok (.bipush 20, 2) := by decide +kernel
theorem d_X12_init_246 : decode cX12_init 246 = .ok (.bipush 111, 2) := by decide +kernel
theorem d_X12_init_248 : decode cX12_init 248 = .ok (.iastore, 1) := by decide +kernel
theorem d_X12_init_249 : decode cX12_init 249 = .ok (.dup, 1) := by decide +kernel
theorem d_X12_init_250 : decode cX12_init 250 = .ok (.bipush 21, 2) := by decide +kernel
theorem d_X12_init_252 : decode cX12_init 252 = .ok (.bipush 116, 2) := by decide +kernel
theorem d_X12_init_254 : decode cX12_init 254 = .ok (.iastore, 1) := by decide +kernel
theorem d_X12_init_255 : decode cX12_init 255 = .ok (.dup, 1) := by decide +kernel
theorem d_X12_init_256 : decode cX12_init 256 = .ok (.bipush 22, 2) := by decide +kernel
theorem d_X12_init_258 : decode cX12_init 258 = .ok (.bipush 97, 2) := by decide +kernel
theorem d_X12_init_260 : decode cX12_init 260 = .ok (.iastore, 1) := by decide +kernel
theorem d_X12_init_261 : decode cX12_init 261 = .ok (.dup, 1) := by decide +kernel
theorem d_X12_init_262 : decode cX12_init 262 = .ok (.bipush 23, 2) := by decide +kernel
theorem d_X12_init_264 : decode cX12_init 264 = .ok (.bipush 110, 2) := by decide +kernel
theorem d_X12_init_266 : decode cX12_init 266 = .ok (.iastore, 1) := by decide +kernel
theorem d_X12_init_267 : decode cX12_init 267 = .ok (.dup, 1) := by decide +kernel
theorem d_X12_init_268 : decode cX12_init 268 = .ok (.bipush 24, 2) := by decide +kernel
theorem d_X12_init_270 : decode cX12_init 270 = .ok (.bipush 100, 2) := by decide +kernel
theorem d_X12_init_272 : decode cX12_init 272 = .ok (.iastore, 1) := by decide +kernel
theorem d_X12_init_273 : decode cX12_init 273 = .ok (.dup, 1) := by decide +kernel
theorem d_X12_init_274 : decode cX12_init 274 = .ok (.bipush 25, 2) := by decide +kernel
theorem d_X12_init_276 : decode cX12_init 276 = .ok (.bipush 111, 2) := by decide +kernel
theorem d_X12_init_278 : decode cX12_init 278 = .ok (.iastore, 1) := by decide +kernel
theorem d_X12_init_279 : decode cX12_init 279 = .ok (.dup, 1) := by decide +kernel
theorem d_X12_init_280 : decode cX12_init 280 = .ok (.bipush 26, 2) := by decide +kernel
theorem d_X12_init_282 : decode cX12_init 282 = .ok (.bipush 114, 2) := by decide +kernel
theorem d_X12_init_284 : decode cX12_init 284 = .ok (.iastore, 1) := by decide +kernel
theorem d_X12_init_285 : decode cX12_init 285 = .ok (.dup, 1) := by decide +kernel
theorem d_X12_init_286 : decode cX12_init 286 = .ok (.bipush 27, 2) := by decide +kernel
theorem d_X12_init_288 : decode cX12_init 288 = .ok (.bipush 110, 2) := by decide +kernel
theorem d_X12_init_290 : decode cX12_init 290 = .ok (.iastore, 1) := by decide +kernel
theorem d_X12_init_291 : decode cX12_init 291 = .ok (.dup, 1) := by decide +kernel
theorem d_X12_init_292 : decode cX12_init 292 = .ok (.bipush 28, 2) := by decide +kernel
theorem d_X12_init_294 : decode cX12_init 294 = .ok (.bipush 111, 2) := by decide +kernel
theorem d_X12_init_296 : decode cX12_init 296 = .ok (.iastore, 1) := by decide +kernel
theorem d_X12_init_297 : decode cX12_init 297 = .ok (.dup, 1) := by decide +kernel
theorem d_X12_init_298 : decode cX12_init 298 = .ok (.bipush 29, 2) := by decide +kernel
theorem d_X12_init_300 : decode cX12_init 300 = .ok (.bipush 100, 2) := by decide +kernel
theorem d_X12_init_302 : decode cX12_init 302 = .ok (.iastore, 1) := by decide +kernel
theorem d_X12_init_303 : decode cX12_init 303 = .ok (.dup, 1) := by decide +kernel
theorem d_X12_init_304 : decode cX12_init 304 = .ok (.bipush 30, 2) := by decide +kernel
theorem d_X12_init_306 : decode cX12_init 306 = .ok (.bipush 101, 2) := by decide +kernel
theorem d_X12_init_308 : decode cX12_init 308 = .ok (.iastore, 1) := by decide +kernel
theorem d_X12_init_309 : decode cX12_init 309 = .ok (.dup, 1) := by decide +kernel
theorem d_X12_init_310 : decode cX12_init 310 = .ok (.bipush 31, 2) := by decide +kernel
theorem d_X12_init_312 : decode cX12_init 312 = .ok (.bipush 97, 2) := by decide +kernel
theorem d_X12_init_314 : decode cX12_init 314 = .ok (.iastore, 1) := by decide +kernel
theorem d_X12_init_315 : decode cX12_init 315 = .ok (.dup, 1) := by decide +kernel
theorem d_X12_init_316 : decode cX12_init 316 = .ok (.bipush 32, 2) := by decide +kernel
theorem d_X12_init_318 : decode cX12_init 318 = .ok (.bipush 115, 2) := by decide +kernel
theorem d_X12_init_320 : decode cX12_init 320 = .ok (.iastore, 1) := by decide +kernel
theorem d_X12_init_321 : decode cX12_init 321 = .ok (.dup, 1) := by decide +kernel
theorem d_X12_init_322 : decode cX12_init 322 = .ok (.bipush 33, 2) := by decide +kernel
theorem d_X12_init_324 : decode cX12_init 324 = .ok (.bipush 107, 2) := by decide +kernel
theorem d_X12_init_326 : decode cX12_init 326 = .ok (.iastore, 1) := by decide +kernel
theorem d_X12_init_327 : decode cX12_init 327 = .ok (.dup, 1) := by decide +kernel
theorem d_X12_init_328 : decode cX12_init 328 = .ok (.bipush 34, 2) := by decide +kernel
theorem d_X12_init_330 : decode cX12_init 330 = .ok (.bipush 109, 2) := by decide +kernel
theorem d_X12_init_332 : decode cX12_init 332 = .ok (.iastore, 1) := by decide +kernel
theorem d_X12_init_333 : decode cX12_init 333 = .ok (.dup, 1) := by decide +kernel
theorem d_X12_init_334 : decode cX12_init 334 = .ok (.bipush 35, 2) := by decide +kernel
theorem d_X12_init_336 : decode cX12_init 336 = .ok (.bipush 97, 2) := by decide +kernel
theorem d_X12_init_338 : decode cX12_init 338 = .ok (.iastore, 1) := by decide +kernel
theorem d_X12_init_339 : decode cX12_init 339 = .ok (.dup, 1) := by decide +kernel
theorem d_X12_init_340 : decode cX12_init 340 = .ok (.bipush 36, 2) := by decide +kernel
theorem d_X12_init_342 : decode cX12_init 342 = .ok (.bipush 121, 2) := by decide +kernel
theorem d_X12_init_344 : decode cX12_init 344 = .ok (.iastore, 1) := by decide +kernel
theorem d_X12_init_345 : decode cX12_init 345 = .ok (.dup, 1) := by decide +kernel
theorem d_X12_init_346 : decode cX12_init 346 = .ok (.bipush 37, 2) := by decide +kernel
theorem d_X12_init_348 : decode cX12_init 348 = .ok (.bipush 98, 2) := by decide +kernel
theorem d_X12_init_350 : decode cX12_init 350 = .ok (.iastore, 1) := by decide +kernel
theorem d_X12_init_351 : decode cX12_init 351 = .ok (.dup, 1) := by decide +kernel
theorem d_X12_init_352 : decode cX12_init 352 = .ok (.bipush 38, 2) := by decide +kernel
theorem d_X12_init_354 : decode cX12_init 354 = .ok (.bipush 101, 2) := by decide +kernel
theorem d_X12_init_356 : decode cX12_init 356 = .ok (.iastore, 1) := by decide +kernel
theorem d_X12_init_357 : decode cX12_init 357 = .ok (.dup, 1) := by decide +kernel
theorem d_X12_init_358 : decode cX12_init 358 = .ok (.bipush 39, 2) := by decide +kernel
theorem d_X12_init_360 : decode cX12_init 360 = .ok (.bipush 97, 2) := by decide +kernel
theorem d_X12_init_362 : decode cX12_init 362 = .ok (.iastore, 1) := by decide +kernel
theorem d_X12_init_363 : decode cX12_init 363 = .ok (.dup, 1) := by decide +kernel
theorem d_X12_init_364 : decode cX12_init 364 = .ok (.bipush 40, 2) := by decide +kernel
theorem d_X12_init_366 : decode cX12_init 366 = .ok (.bipush 108, 2) := by decide +kernel
theorem d_X12_init_368 : decode cX12_init 368 = .ok (.iastore, 1) := by decide +kernel
theorem d_X12_init_369 : decode cX12_init 369 = .ok (.dup, 1) := by decide +kernel
theorem d_X12_init_370 : decode cX12_init 370 = .ok (.bipush 41, 2) := by decide +kernel
theorem d_X12_init_372 : decode cX12_init 372 = .ok (.bipush 108, 2) := by decide +kernel
theorem d_X12_init_374 : decode cX12_init 374 = .ok (.iastore, 1) := by decide +kernel
theorem d_X12_init_375 : decode cX12_init 375 = .ok (.dup, 1) := by decide +kernel
theorem d_X12_init_376 : decode cX12_init 376 = .ok (.bipush 42, 2) := by decide +kernel
theorem d_X12_init_378 : decode cX12_init 378 = .ok (.bipush 115, 2) := by decide +kernel
theorem d_X12_init_380 : decode cX12_init 380 = .ok (.iastore, 1) := by decide +kernel
theorem d_X12_init_381 : decode cX12_init 381 = .ok (.dup, 1) := by decide +kernel
theorem d_X12_init_382 : decode cX12_init 382 = .ok (.bipush 43, 2) := by decide +kernel
theorem d_X12_init_384 : decode cX12_init 384 = .ok (.bipush 111, 2) := by decide +kernel
theorem d_X12_init_386 : decode cX12_init 386 = .ok (.iastore, 1) := by decide +kernel
theorem d_X12_init_387 : decode cX12_init 387 = .ok (.dup, 1) := by decide +kernel
theorem d_X12_init_388 : decode cX12_init 388 = .ok (.bipush 44, 2) := by decide +kernel
theorem d_X12_init_390 : decode cX12_init 390 = .ok (.bipush 109, 2) := by decide +kernel
theorem d_X12_init_392 : decode cX12_init 392 = .ok (.iastore, 1) := by decide +kernel
theorem d_X12_init_393 : decode cX12_init 393 = .ok (.dup, 1) := by decide +kernel
theorem d_X12_init_394 : decode cX12_init 394 = .ok (.bipush 45, 2) := by decide +kernel
theorem d_X12_init_396 : decode cX12_init 396 = .ok (.bipush 101, 2) := by decide +kernel
theorem d_X12_init_398 : decode cX12_init 398 = .ok (.iastore, 1) := by decide +kernel
theorem d_X12_init_399 : decode cX12_init 399 = .ok (.putfield 25, 3) := by decide +kernel
theorem d_X12_init_402 : decode cX12_init 402 = .ok (.aload_n 0, 1) := by decide +kernel
theorem d_X12_init_403 : decode cX12_init 403 = .ok (.bipush 36, 2) := by decide +kernel
theorem d_X12_init_405 : decode cX12_init 405 = .ok (.newarray .int, 2) := by decide +kernel
theorem d_X12_init_407 : decode cX12_init 407 = .ok (.putfield 28, 3) := by decide +kernel
theorem d_X12_init_410 : decode cX12_init 410 = .ok (.aload_n 0, 1) := by decide +kernel
theorem d_X12_init_411 : decode cX12_init 411 = .ok (.iconst 3, 1) := by decide +kernel
theorem d_X12_init_412 : decode cX12_init 412 = .ok (.newarray .int, 2) := by decide +kernel
theorem d_X12_init_414 : decode cX12_init 414 = .ok (.putfield 31, 3) := by decide +kernel
theorem d_X12_init_417 : decode cX12_init 417 = .ok (.aload_n 0, 1) := by decide +kernel
theorem d_X12_init_418 : decode cX12_init 418 = .ok (.bipush 13, 2) := by decide +kernel
theorem d_X12_init_420 : decode cX12_init 420 = .ok (.newarray .int, 2) := by decide +kernel
theorem d_X12_init_422 : decode cX12_init 422 = .ok (.putfield 34, 3) := by decide +kernel
theorem d_X12_init_425 : decode cX12_init 425 = .ok (.aload_n 0, 1) := by decide +kernel
theorem d_X12_init_426 : decode cX12_init 426 = .ok (.bipush 6, 2) := by decide +kernel
theorem d_X12_init_428 : decode cX12_init 428 = .ok (.newarray .int, 2) := by decide +kernel
theorem d_X12_init_430 : decode cX12_init 430 = .ok (.putfield 37, 3) := by decide +kernel
theorem d_X12_init_433 : decode cX12_init 433 = .ok (.aload_n 0, 1) := by decide +kernel
theorem d_X12_init_434 : decode cX12_init 434 = .ok (.bipush 18, 2) := by decide +kernel
theorem d_X12_init_436 : decode cX12_init 436 = .ok (.newarray .int, 2) := by decide +kernel
theorem d_X12_init_438 : decode cX12_init 438 = .ok (.putfield 40, 3) := by decide +kernel
theorem d_X12_init_441 : decode cX12_init 441 = .ok (.aload_n 0, 1) := by decide +kernel
theorem d_X12_init_442 : decode cX12_init 442 = .ok (.iconst 2, 1) := by decide +kernel
theorem d_X12_init_443 : decode cX12_init 443 = .ok (.newarray .boolean, 2) := by decide +kernel
theorem d_X12_init_445 : decode cX12_init 445 = .ok (.dup, 1) := by decide +kernel
theorem d_X12_init_446 : decode cX12_init 446 = .ok (.iconst 0, 1) := by decide +kernel
theorem d_X12_init_447 : decode cX12_init 447 = .ok (.iconst 0, 1) := by decide +kernel
theorem d_X12_init_448 : decode cX12_init 448 = .ok (.bastore, 1) := by decide +kernel
theorem d_X12_init_449 : decode cX12_init 449 = .ok (.dup, 1) := by decide +kernel
theorem d_X12_init_450 : decode cX12_init 450 = .ok (.iconst 1, 1) := by decide +kernel
theorem d_X12_init_451 : decode cX12_init 451 = .ok (.iconst 0, 1) := by decide +kernel
theorem d_X12_init_452 : decode cX12_init 452 = .ok (.bastore, 1) := by decide +kernel
theorem d_X12_init_453 : decode cX12_init 453 = .ok (.putfield 43, 3) := by decide +kernel
theorem d_X12_init_456 : decode cX12_init 456 = .ok (.aload_n 0, 1) := by decide +kernel
theorem d_X12_init_457 : decode cX12_init 457 = .ok (.bipush 7, 2) := by decide +kernel
theorem d_X12_init_459 : decode cX12_init 459 = .ok (.newarray .int, 2) := by decide +kernel
theorem d_X12_init_461 : decode cX12_init 461 = .ok (.putfield 47, 3) := by decide +kernel
theorem d_X12_init_464 : decode cX12_init 464 = .ok (.aload_n 0, 1) := by decide +kernel
theorem d_X12_init_465 : decode cX12_init 465 = .ok (.iconst 4, 1) := by decide +kernel
theorem d_X12_init_466 : decode cX12_init 466 = .ok (.newarray .int, 2) := by decide +kernel
theorem d_X12_init_468 : decode cX12_init 468 = .ok (.dup, 1) := by decide +kernel
theorem d_X12_init_469 : decode cX12_init 469 = .ok (.iconst 0, 1) := by decide +kernel
theorem d_X12_init_470 : decode cX12_init 470 = .ok (.bipush (-4), 2) := by decide +kernel
theorem d_X12_init_472 : decode cX12_init 472 = .ok (.iastore, 1) := by decide +kernel
theorem d_X12_init_473 : decode cX12_init 473 = .ok (.dup, 1) := by decide +kernel
theorem d_X12_init_474 : decode cX12_init 474 = .ok (.iconst 1, 1) := by decide +kernel
theorem d_X12_init_475 : decode cX12_init 475 = .ok (.bipush (-4), 2) := by decide +kernel
theorem d_X12_init_477 : decode cX12_init 477 = .ok (.iastore, 1) := by decide +kernel
theorem d_X12_init_478 : decode cX12_init 478 = .ok (.dup, 1) := by decide +kernel
theorem d_X12_init_479 : decode cX12_init 479 = .ok (.iconst 2, 1) := by decide +kernel
theorem d_X12_init_480 : decode cX12_init 480 = .ok (.bipush (-4), 2) := by decide +kernel
theorem d_X12_init_482 : decode cX12_init 482 = .ok (.iastore, 1) := by decide +kernel
theorem d_X12_init_483 : decode cX12_init 483 = .ok (.dup, 1) := by decide +kernel
theorem d_X12_init_484 : decode cX12_init 484 = .ok (.iconst 3, 1) := by decide +kernel
theorem d_X12_init_485 : decode cX12_init 485 = .ok (.bipush (-4), 2) := by decide +kernel
theorem d_X12_init_487 : decode cX12_init 487 = .ok (.iastore, 1) := by decide +kernel
theorem d_X12_init_488 : decode cX12_init 488 = .ok (.putfield 50, 3) := by decide +kernel
theorem d_X12_init_491 : decode cX12_init 491 = .ok (.aload_n 0, 1) := by decide +kernel
theorem d_X12_init_492 : decode cX12_init 492 = .ok (.iconst 4, 1) := by decide +kernel
theorem d_X12_init_493 : decode cX12_init 493 = .ok (.newarray .int, 2) := by decide +kernel
theorem d_X12_init_495 : decode cX12_init 495 = .ok (.dup, 1) := by decide +kernel
theorem d_X12_init_496 : decode cX12_init 496 = .ok (.iconst 0, 1) := by decide +kernel
theorem d_X12_init_497 : decode cX12_init 497 = .ok (.iconst 0, 1) := by decide +kernel
theorem d_X12_init_498 : decode cX12_init 498 = .ok (.iastore, 1) := by decide +kernel
theorem d_X12_init_499 : decode cX12_init 499 = .ok (.dup, 1) := by decide +kernel
theorem d_X12_init_500 : decode cX12_init 500 = .ok (.iconst 1, 1) := by decide +kernel
theorem d_X12_init_501 : decode cX12_init 501 = .ok (.iconst 0, 1) := by decide +kernel
theorem d_X12_init_502 : decode cX12_init 502 = .ok (.iastore, 1) := by decide +kernel
theorem d_X12_init_503 : decode cX12_init 503 = .ok (.dup, 1) := by decide +kernel
theorem d_X12_init_504 : decode cX12_init 504 = .ok (.iconst 2, 1) := by decide +kernel
theorem d_X12_init_505 : decode cX12_init 505 = .ok (.iconst 0, 1) := by decide +kernel
theorem d_X12_init_506 : decode cX12_init 506 = .ok (.iastore, 1) := by decide +kernel
theorem d_X12_init_507 : decode cX12_init 507 = .ok (.dup, 1) := by decide +kernel
theorem d_X12_init_508 : decode cX12_init 508 = .ok (.iconst 3, 1) := by decide +kernel
theorem d_X12_init_509 : decode cX12_init 509 = .ok (.iconst 0, 1) := by decide +kernel
theorem d_X12_init_510 : decode cX12_init 510 = .ok (.iastore, 1) := by decide +kernel
theorem d_X12_init_511 : decode cX12_init 511 = .ok (.putfield 53, 3) := by decide +kernel
theorem d_X12_init_514 : decode cX12_init 514 = .ok (.aload_n 0, 1) := by decide +kernel
theorem d_X12_init_515 : decode cX12_init 515 = .ok (.sipush 160, 3) := by decide +kernel
theorem d_X12_init_518 : decode cX12_init 518 = .ok (.newarray .int, 2) := by decide +kernel
theorem d_X12_init_520 : decode cX12_init 520 = .ok (.putfield 56, 3) := by decide +kernel
theorem d_X12_init_523 : decode cX12_init 523 = .ok (.return_, 1) := by decide +kernel
theorem b_X12_init_0 {X : cX} {R R' : Room} {cs sl : Nat} {μ : mM} {K : Option Value → mM → Prop} {r0 : Nat} (hrb : rb R cs sl) (hc1 : cs + 1 ≤ R.cells) (hs366 : sl + 366 ≤ R.slots) (h : G X R mX12_init 10 [(0, .ref r0)] [.ref (sz μ), .ref r0] (al μ (1, 366)) (cs + 1) (sl + 366) K) : G X R mX12_init 0 [(0, .ref r0)] [] μ cs sl K := by
  refine G_aload_n d_X12_init_0 rfl 0 rfl ?_
  refine G_objInit ml_X12_1 hrb (Nat.le_of_ble_eq_true rfl) d_X12_init_1 ?_
  refine G_aload_n d_X12_init_4 rfl 0 rfl ?_
  refine G_sipush d_X12_init_5 sp_366 ?_
  refine G_newI (N := 366) rfl (by decide) hc1 hs366 d_X12_init_8 ?_
  exact h
theorem b_X12_init_10 {X : cX} {R R' : Room} {cs sl : Nat} {μ : mM} {K : Option Value → mM → Prop} {r0 : Nat} {q0 : Nat} {q1 : Nat} (hk_q0 : kd μ q0 = (0, 12)) (h : G X R mX12_init 13 [(0, .ref r0)] [] (wr μ q0 0 (some q1)) cs sl K) : G X R mX12_init 10 [(0, .ref r0)] [.ref q1, .ref q0] μ cs sl K := by
  refine G_putR 12 0 hk_q0 cok12 (by decide) rfl (Or.inr ⟨rfl, rfl⟩) fl_X12_7 d_X12_init_10 ?_
  exact h
theorem b_X12_init_13 {X : cX} {R R' : Room} {cs sl : Nat} {μ : mM} {K : Option Value → mM → Prop} {r0 : Nat} (hc1 : cs + 1 ≤ R.cells) (hs192 : sl + 192 ≤ R.slots) (h : G X R mX12_init 19 [(0, .ref r0)] [.ref (sz μ), .ref r0] (al μ (1, 192)) (cs + 1) (sl + 192) K) : G X R mX12_init 13 [(0, .ref r0)] [] μ cs sl K := by
  refine G_aload_n d_X12_init_13 rfl 0 rfl ?_
  refine G_sipush d_X12_init_14 sp_192 ?_
  refine G_newI (N := 192) rfl (by decide) hc1 hs192 d_X12_init_17 ?_
  exact h
theorem b_X12_init_19 {X : cX} {R R' : Room} {cs sl : Nat} {μ : mM} {K : Option Value → mM → Prop} {r0 : Nat} {q0 : Nat} {q1 : Nat} (hk_q0 : kd μ q0 = (0, 12)) (h : G X R mX12_init 22 [(0, .ref r0)] [] (wr μ q0 1 (some q1)) cs sl K) : G X R mX12_init 19 [(0, .ref r0)] [.ref q1, .ref q0] μ cs sl K := by
  refine G_putR 12 1 hk_q0 cok12 (by decide) rfl (Or.inr ⟨rfl, rfl⟩) fl_X12_13 d_X12_init_19 ?_
  exact h
theorem b_X12_init_22 {X : cX} {R R' : Room} {cs sl : Nat} {μ : mM} {K : Option Value → mM → Prop} {r0 : Nat} (hc1 : cs + 1 ≤ R.cells) (hs192 : sl + 192 ≤ R.slots) (h : G X R mX12_init 28 [(0, .ref r0)] [.ref (sz μ), .ref r0] (al μ (1, 192)) (cs + 1) (sl + 192) K) : G X R mX12_init 22 [(0, .ref r0)] [] μ cs sl K := by
  refine G_aload_n d_X12_init_22 rfl 0 rfl ?_
  refine G_sipush d_X12_init_23 sp_192 ?_
  refine G_newI (N := 192) rfl (by decide) hc1 hs192 d_X12_init_26 ?_
  exact h
theorem b_X12_init_28 {X : cX} {R R' : Room} {cs sl : Nat} {μ : mM} {K : Option Value → mM → Prop} {r0 : Nat} {q0 : Nat} {q1 : Nat} (hk_q0 : kd μ q0 = (0, 12)) (h : G X R mX12_init 31 [(0, .ref r0)] [] (wr μ q0 3 (some q1)) cs sl K) : G X R mX12_init 28 [(0, .ref r0)] [.ref q1, .ref q0] μ cs sl K := by
  refine G_putR 12 3 hk_q0 cok12 (by decide) rfl (Or.inr ⟨rfl, rfl⟩) fl_X12_16 d_X12_init_28 ?_
  exact h
theorem b_X12_init_31 {X : cX} {R R' : Room} {cs sl : Nat} {μ : mM} {K : Option Value → mM → Prop} {r0 : Nat} (hc1 : cs + 1 ≤ R.cells) (hs320 : sl + 320 ≤ R.slots) (h : G X R mX12_init 37 [(0, .ref r0)] [.ref (sz μ), .ref r0] (al μ (1, 320)) (cs + 1) (sl + 320) K) : G X R mX12_init 31 [(0, .ref r0)] [] μ cs sl K := by
  refine G_aload_n d_X12_init_31 rfl 0 rfl ?_
  refine G_sipush d_X12_init_32 sp_320 ?_
  refine G_newI (N := 320) rfl (by decide) hc1 hs320 d_X12_init_35 ?_
  exact h
theorem b_X12_init_37 {X : cX} {R R' : Room} {cs sl : Nat} {μ : mM} {K : Option Value → mM → Prop} {r0 : Nat} {q0 : Nat} {q1 : Nat} (hk_q0 : kd μ q0 = (0, 12)) (h : G X R mX12_init 40 [(0, .ref r0)] [] (wr μ q0 5 (some q1)) cs sl K) : G X R mX12_init 37 [(0, .ref r0)] [.ref q1, .ref q0] μ cs sl K := by
  refine G_putR 12 5 hk_q0 cok12 (by decide) rfl (Or.inr ⟨rfl, rfl⟩) fl_X12_19 d_X12_init_37 ?_
  exact h
theorem b_X12_init_40 {X : cX} {R R' : Room} {cs sl : Nat} {μ : mM} {K : Option Value → mM → Prop} {r0 : Nat} (hc1 : cs + 1 ≤ R.cells) (hs14 : sl + 14 ≤ R.slots) (h : G X R mX12_init 45 [(0, .ref r0)] [.ref (sz μ), .ref r0] (al μ (1, 14)) (cs + 1) (sl + 14) K) : G X R mX12_init 40 [(0, .ref r0)] [] μ cs sl K := by
  refine G_aload_n d_X12_init_40 rfl 0 rfl ?_
  refine G_bipush d_X12_init_41 bp_14 ?_
  refine G_newI (N := 14) rfl (by decide) hc1 hs14 d_X12_init_43 ?_
  exact h
theorem b_X12_init_45 {X : cX} {R R' : Room} {cs sl : Nat} {μ : mM} {K : Option Value → mM → Prop} {r0 : Nat} {q0 : Nat} {q1 : Nat} {n0 : Nat} (hk_q1 : kd μ q1 = (1, n0)) (hb : 0 < n0) (hb_2 : 1 < n0) (hb_3 : 2 < n0) (hb_4 : 3 < n0) (hb_5 : 4 < n0) (hb_6 : 5 < n0) (h : G X R mX12_init 73 [(0, .ref r0)] [.ref q1, .ref q0] (wi (wi (wi (wi (wi (wi μ q1 0 0) q1 1 2) q1 2 7) q1 3 11) q1 4 15) q1 5 19) cs sl K) : G X R mX12_init 45 [(0, .ref r0)] [.ref q1, .ref q0] μ cs sl K := by
  refine G_dup d_X12_init_45 rfl ?_
  refine G_iconst d_X12_init_46 ic_0 ?_
  refine G_iconst d_X12_init_47 ic_0 ?_
  refine G_iast 0 hk_q1 rfl hb d_X12_init_48 ?_
  refine G_dup d_X12_init_49 rfl ?_
  refine G_iconst d_X12_init_50 ic_1 ?_
  refine G_iconst d_X12_init_51 ic_2 ?_
  refine G_iast 1 hk_q1 rfl hb_2 d_X12_init_52 ?_
  refine G_dup d_X12_init_53 rfl ?_
  refine G_iconst d_X12_init_54 ic_2 ?_
  refine G_bipush d_X12_init_55 bp_7 ?_
  refine G_iast 2 hk_q1 rfl hb_3 d_X12_init_57 ?_
  refine G_dup d_X12_init_58 rfl ?_
  refine G_iconst d_X12_init_59 ic_3 ?_
  refine G_bipush d_X12_init_60 bp_11 ?_
  refine G_iast 3 hk_q1 rfl hb_4 d_X12_init_62 ?_
  refine G_dup d_X12_init_63 rfl ?_
  refine G_iconst d_X12_init_64 ic_4 ?_
  refine G_bipush d_X12_init_65 bp_15 ?_
  refine G_iast 4 hk_q1 rfl hb_5 d_X12_init_67 ?_
  refine G_dup d_X12_init_68 rfl ?_
  refine G_iconst d_X12_init_69 ic_5 ?_
  refine G_bipush d_X12_init_70 bp_19 ?_
  refine G_iast 5 hk_q1 rfl hb_6 d_X12_init_72 ?_
  exact h
theorem b_X12_init_73 {X : cX} {R R' : Room} {cs sl : Nat} {μ : mM} {K : Option Value → mM → Prop} {r0 : Nat} {q0 : Nat} {q1 : Nat} {n0 : Nat} (hk_q1 : kd μ q1 = (1, n0)) (hb : 6 < n0) (hb_2 : 7 < n0) (hb_3 : 8 < n0) (hb_4 : 9 < n0) (hb_5 : 10 < n0) (hb_6 : 11 < n0) (h : G X R mX12_init 109 [(0, .ref r0)] [.ref q1, .ref q0] (wi (wi (wi (wi (wi (wi μ q1 6 22) q1 7 25) q1 8 27) q1 9 31) q1 10 34) q1 11 39) cs sl K) : G X R mX12_init 73 [(0, .ref r0)] [.ref q1, .ref q0] μ cs sl K := by
  refine G_dup d_X12_init_73 rfl ?_
  refine G_bipush d_X12_init_74 bp_6 ?_
  refine G_bipush d_X12_init_76 bp_22 ?_
  refine G_iast 6 hk_q1 rfl hb d_X12_init_78 ?_
  refine G_dup d_X12_init_79 rfl ?_
  refine G_bipush d_X12_init_80 bp_7 ?_
  refine G_bipush d_X12_init_82 bp_25 ?_
  refine G_iast 7 hk_q1 rfl hb_2 d_X12_init_84 ?_
  refine G_dup d_X12_init_85 rfl ?_
  refine G_bipush d_X12_init_86 bp_8 ?_
  refine G_bipush d_X12_init_88 bp_27 ?_
  refine G_iast 8 hk_q1 rfl hb_3 d_X12_init_90 ?_
  refine G_dup d_X12_init_91 rfl ?_
  refine G_bipush d_X12_init_92 bp_9 ?_
  refine G_bipush d_X12_init_94 bp_31 ?_
  refine G_iast 9 hk_q1 rfl hb_4 d_X12_init_96 ?_
  refine G_dup d_X12_init_97 rfl ?_
  refine G_bipush d_X12_init_98 bp_10 ?_
  refine G_bipush d_X12_init_100 bp_34 ?_
  refine G_iast 10 hk_q1 rfl hb_5 d_X12_init_102 ?_
  refine G_dup d_X12_init_103 rfl ?_
  refine G_bipush d_X12_init_104 bp_11 ?_
  refine G_bipush d_X12_init_106 bp_39 ?_
  refine G_iast 11 hk_q1 rfl hb_6 d_X12_init_108 ?_
  exact h
theorem b_X12_init_109 {X : cX} {R R' : Room} {cs sl : Nat} {μ : mM} {K : Option Value → mM → Prop} {r0 : Nat} {q0 : Nat} {q1 : Nat} {n0 : Nat} (hk_q1 : kd μ q1 = (1, n0)) (hb : 12 < n0) (hb_2 : 13 < n0) (hk_q0 : kd μ q0 = (0, 12)) (h : G X R mX12_init 124 [(0, .ref r0)] [] (wr (wi (wi μ q1 12 42) q1 13 46) q0 15 (some q1)) cs sl K) : G X R mX12_init 109 [(0, .ref r0)] [.ref q1, .ref q0] μ cs sl K := by
  refine G_dup d_X12_init_109 rfl ?_
  refine G_bipush d_X12_init_110 bp_12 ?_
  refine G_bipush d_X12_init_112 bp_42 ?_
  refine G_iast 12 hk_q1 rfl hb d_X12_init_114 ?_
  refine G_dup d_X12_init_115 rfl ?_
  refine G_bipush d_X12_init_116 bp_13 ?_
  refine G_bipush d_X12_init_118 bp_46 ?_
  refine G_iast 13 hk_q1 rfl hb_2 d_X12_init_120 ?_
  refine G_putR 12 15 hk_q0 cok12 (by decide) rfl (Or.inr ⟨rfl, rfl⟩) fl_X12_22 d_X12_init_121 ?_
  exact h
theorem b_X12_init_124 {X : cX} {R R' : Room} {cs sl : Nat} {μ : mM} {K : Option Value → mM → Prop} {r0 : Nat} (hc1 : cs + 1 ≤ R.cells) (hs46 : sl + 46 ≤ R.slots) (h : G X R mX12_init 129 [(0, .ref r0)] [.ref (sz μ), .ref r0] (al μ (1, 46)) (cs + 1) (sl + 46) K) : G X R mX12_init 124 [(0, .ref r0)] [] μ cs sl K := by
  refine G_aload_n d_X12_init_124 rfl 0 rfl ?_
  refine G_bipush d_X12_init_125 bp_46 ?_
  refine G_newI (N := 46) rfl (by decide) hc1 hs46 d_X12_init_127 ?_
  exact h
theorem b_X12_init_129 {X : cX} {R R' : Room} {cs sl : Nat} {μ : mM} {K : Option Value → mM → Prop} {r0 : Nat} {q0 : Nat} {q1 : Nat} {n0 : Nat} (hk_q1 : kd μ q1 = (1, n0)) (hb : 0 < n0) (hb_2 : 1 < n0) (hb_3 : 2 < n0) (hb_4 : 3 < n0) (h : G X R mX12_init 149 [(0, .ref r0)] [.ref q1, .ref q0] (wi (wi (wi (wi μ q1 0 97) q1 1 116) q1 2 114) q1 3 101) cs sl K) : G X R mX12_init 129 [(0, .ref r0)] [.ref q1, .ref q0] μ cs sl K := by
  refine G_dup d_X12_init_129 rfl ?_
  refine G_iconst d_X12_init_130 ic_0 ?_
  refine G_bipush d_X12_init_131 bp_97 ?_
  refine G_iast 0 hk_q1 rfl hb d_X12_init_133 ?_
  refine G_dup d_X12_init_134 rfl ?_
  refine G_iconst d_X12_init_135 ic_1 ?_
  refine G_bipush d_X12_init_136 bp_116 ?_
  refine G_iast 1 hk_q1 rfl hb_2 d_X12_init_138 ?_
  refine G_dup d_X12_init_139 rfl ?_
  refine G_iconst d_X12_init_140 ic_2 ?_
  refine G_bipush d_X12_init_141 bp_114 ?_
  refine G_iast 2 hk_q1 rfl hb_3 d_X12_init_143 ?_
  refine G_dup d_X12_init_144 rfl ?_
  refine G_iconst d_X12_init_145 ic_3 ?_
  refine G_bipush d_X12_init_146 bp_101 ?_
  refine G_iast 3 hk_q1 rfl hb_4 d_X12_init_148 ?_
  exact h
theorem b_X12_init_149 {X : cX} {R R' : Room} {cs sl : Nat} {μ : mM} {K : Option Value → mM → Prop} {r0 : Nat} {q0 : Nat} {q1 : Nat} {n0 : Nat} (hk_q1 : kd μ q1 = (1, n0)) (hb : 4 < n0) (hb_2 : 5 < n0) (hb_3 : 6 < n0) (hb_4 : 7 < n0) (hb_5 : 8 < n0) (hb_6 : 9 < n0) (h : G X R mX12_init 183 [(0, .ref r0)] [.ref q1, .ref q0] (wi (wi (wi (wi (wi (wi μ q1 4 97) q1 5 99) q1 6 104) q1 7 110) q1 8 101) q1 9 120) cs sl K) : G X R mX12_init 149 [(0, .ref r0)] [.ref q1, .ref q0] μ cs sl K := by
  refine G_dup d_X12_init_149 rfl ?_
  refine G_iconst d_X12_init_150 ic_4 ?_
  refine G_bipush d_X12_init_151 bp_97 ?_
  refine G_iast 4 hk_q1 rfl hb d_X12_init_153 ?_
  refine G_dup d_X12_init_154 rfl ?_
  refine G_iconst d_X12_init_155 ic_5 ?_
  refine G_bipush d_X12_init_156 bp_99 ?_
  refine G_iast 5 hk_q1 rfl hb_2 d_X12_init_158 ?_
  refine G_dup d_X12_init_159 rfl ?_
  refine G_bipush d_X12_init_160 bp_6 ?_
  refine G_bipush d_X12_init_162 bp_104 ?_
  refine G_iast 6 hk_q1 rfl hb_3 d_X12_init_164 ?_
  refine G_dup d_X12_init_165 rfl ?_
  refine G_bipush d_X12_init_166 bp_7 ?_
  refine G_bipush d_X12_init_168 bp_110 ?_
  refine G_iast 7 hk_q1 rfl hb_4 d_X12_init_170 ?_
  refine G_dup d_X12_init_171 rfl ?_
  refine G_bipush d_X12_init_172 bp_8 ?_
  refine G_bipush d_X12_init_174 bp_101 ?_
  refine G_iast 8 hk_q1 rfl hb_5 d_X12_init_176 ?_
  refine G_dup d_X12_init_177 rfl ?_
  refine G_bipush d_X12_init_178 bp_9 ?_
  refine G_bipush d_X12_init_180 bp_120 ?_
  refine G_iast 9 hk_q1 rfl hb_6 d_X12_init_182 ?_
  exact h
theorem b_X12_init_183 {X : cX} {R R' : Room} {cs sl : Nat} {μ : mM} {K : Option Value → mM → Prop} {r0 : Nat} {q0 : Nat} {q1 : Nat} {n0 : Nat} (hk_q1 : kd μ q1 = (1, n0)) (hb : 10 < n0) (hb_2 : 11 < n0) (hb_3 : 12 < n0) (hb_4 : 13 < n0) (hb_5 : 14 < n0) (hb_6 : 15 < n0) (h : G X R mX12_init 219 [(0, .ref r0)] [.ref q1, .ref q0] (wi (wi (wi (wi (wi (wi μ q1 10 116) q1 11 115) q1 12 97) q1 13 109) q1 14 101) q1 15 109) cs sl K) : G X R mX12_init 183 [(0, .ref r0)] [.ref q1, .ref q0] μ cs sl K := by
  refine G_dup d_X12_init_183 rfl ?_
  refine G_bipush d_X12_init_184 bp_10 ?_
  refine G_bipush d_X12_init_186 bp_116 ?_
  refine G_iast 10 hk_q1 rfl hb d_X12_init_188 ?_
  refine G_dup d_X12_init_189 rfl ?_
  refine G_bipush d_X12_init_190 bp_11 ?_
  refine G_bipush d_X12_init_192 bp_115 ?_
  refine G_iast 11 hk_q1 rfl hb_2 d_X12_init_194 ?_
  refine G_dup d_X12_init_195 rfl ?_
  refine G_bipush d_X12_init_196 bp_12 ?_
  refine G_bipush d_X12_init_198 bp_97 ?_
  refine G_iast 12 hk_q1 rfl hb_3 d_X12_init_200 ?_
  refine G_dup d_X12_init_201 rfl ?_
  refine G_bipush d_X12_init_202 bp_13 ?_
  refine G_bipush d_X12_init_204 bp_109 ?_
  refine G_iast 13 hk_q1 rfl hb_4 d_X12_init_206 ?_
  refine G_dup d_X12_init_207 rfl ?_
  refine G_bipush d_X12_init_208 bp_14 ?_
  refine G_bipush d_X12_init_210 bp_101 ?_
  refine G_iast 14 hk_q1 rfl hb_5 d_X12_init_212 ?_
  refine G_dup d_X12_init_213 rfl ?_
  refine G_bipush d_X12_init_214 bp_15 ?_
  refine G_bipush d_X12_init_216 bp_109 ?_
  refine G_iast 15 hk_q1 rfl hb_6 d_X12_init_218 ?_
  exact h
theorem b_X12_init_219 {X : cX} {R R' : Room} {cs sl : Nat} {μ : mM} {K : Option Value → mM → Prop} {r0 : Nat} {q0 : Nat} {q1 : Nat} {n0 : Nat} (hk_q1 : kd μ q1 = (1, n0)) (hb : 16 < n0) (hb_2 : 17 < n0) (hb_3 : 18 < n0) (hb_4 : 19 < n0) (hb_5 : 20 < n0) (hb_6 : 21 < n0) (h : G X R mX12_init 255 [(0, .ref r0)] [.ref q1, .ref q0] (wi (wi (wi (wi (wi (wi μ q1 16 97) q1 17 110) q1 18 121) q1 19 110) q1 20 111) q1 21 116) cs sl K) : G X R mX12_init 219 [(0, .ref r0)] [.ref q1, .ref q0] μ cs sl K := by
  refine G_dup d_X12_init_219 rfl ?_
  refine G_bipush d_X12_init_220 bp_16 ?_
  refine G_bipush d_X12_init_222 bp_97 ?_
  refine G_iast 16 hk_q1 rfl hb d_X12_init_224 ?_
  refine G_dup d_X12_init_225 rfl ?_
  refine G_bipush d_X12_init_226 bp_17 ?_
  refine G_bipush d_X12_init_228 bp_110 ?_
  refine G_iast 17 hk_q1 rfl hb_2 d_X12_init_230 ?_
  refine G_dup d_X12_init_231 rfl ?_
  refine G_bipush d_X12_init_232 bp_18 ?_
  refine G_bipush d_X12_init_234 bp_121 ?_
  refine G_iast 18 hk_q1 rfl hb_3 d_X12_init_236 ?_
  refine G_dup d_X12_init_237 rfl ?_
  refine G_bipush d_X12_init_238 bp_19 ?_
  refine G_bipush d_X12_init_240 bp_110 ?_
  refine G_iast 19 hk_q1 rfl hb_4 d_X12_init_242 ?_
  refine G_dup d_X12_init_243 rfl ?_
  refine G_bipush d_X12_init_244 bp_20 ?_
  refine G_bipush d_X12_init_246 bp_111 ?_
  refine G_iast 20 hk_q1 rfl hb_5 d_X12_init_248 ?_
  refine G_dup d_X12_init_249 rfl ?_
  refine G_bipush d_X12_init_250 bp_21 ?_
  refine G_bipush d_X12_init_252 bp_116 ?_
  refine G_iast 21 hk_q1 rfl hb_6 d_X12_init_254 ?_
  exact h
theorem b_X12_init_255 {X : cX} {R R' : Room} {cs sl : Nat} {μ : mM} {K : Option Value → mM → Prop} {r0 : Nat} {q0 : Nat} {q1 : Nat} {n0 : Nat} (hk_q1 : kd μ q1 = (1, n0)) (hb : 22 < n0) (hb_2 : 23 < n0) (hb_3 : 24 < n0) (hb_4 : 25 < n0) (hb_5 : 26 < n0) (hb_6 : 27 < n0) (h : G X R mX12_init 291 [(0, .ref r0)] [.ref q1, .ref q0] (wi (wi (wi (wi (wi (wi μ q1 22 97) q1 23 110) q1 24 100) q1 25 111) q1 26 114) q1 27 110) cs sl K) : G X R mX12_init 255 [(0, .ref r0)] [.ref q1, .ref q0] μ cs sl K := by
  refine G_dup d_X12_init_255 rfl ?_
  refine G_bipush d_X12_init_256 bp_22 ?_
  refine G_bipush d_X12_init_258 bp_97 ?_
  refine G_iast 22 hk_q1 rfl hb d_X12_init_260 ?_
  refine G_dup d_X12_init_261 rfl ?_
  refine G_bipush d_X12_init_262 bp_23 ?_
  refine G_bipush d_X12_init_264 bp_110 ?_
  refine G_iast 23 hk_q1 rfl hb_2 d_X12_init_266 ?_
  refine G_dup d_X12_init_267 rfl ?_
  refine G_bipush d_X12_init_268 bp_24 ?_
  refine G_bipush d_X12_init_270 bp_100 ?_
  refine G_iast 24 hk_q1 rfl hb_3 d_X12_init_272 ?_
  refine G_dup d_X12_init_273 rfl ?_
  refine G_bipush d_X12_init_274 bp_25 ?_
  refine G_bipush d_X12_init_276 bp_111 ?_
  refine G_iast 25 hk_q1 rfl hb_4 d_X12_init_278 ?_
  refine G_dup d_X12_init_279 rfl ?_
  refine G_bipush d_X12_init_280 bp_26 ?_
  refine G_bipush d_X12_init_282 bp_114 ?_
  refine G_iast 26 hk_q1 rfl hb_5 d_X12_init_284 ?_
  refine G_dup d_X12_init_285 rfl ?_
  refine G_bipush d_X12_init_286 bp_27 ?_
  refine G_bipush d_X12_init_288 bp_110 ?_
  refine G_iast 27 hk_q1 rfl hb_6 d_X12_init_290 ?_
  exact h
theorem b_X12_init_291 {X : cX} {R R' : Room} {cs sl : Nat} {μ : mM} {K : Option Value → mM → Prop} {r0 : Nat} {q0 : Nat} {q1 : Nat} {n0 : Nat} (hk_q1 : kd μ q1 = (1, n0)) (hb : 28 < n0) (hb_2 : 29 < n0) (hb_3 : 30 < n0) (hb_4 : 31 < n0) (hb_5 : 32 < n0) (hb_6 : 33 < n0) (h : G X R mX12_init 327 [(0, .ref r0)] [.ref q1, .ref q0] (wi (wi (wi (wi (wi (wi μ q1 28 111) q1 29 100) q1 30 101) q1 31 97) q1 32 115) q1 33 107) cs sl K) : G X R mX12_init 291 [(0, .ref r0)] [.ref q1, .ref q0] μ cs sl K := by
  refine G_dup d_X12_init_291 rfl ?_
  refine G_bipush d_X12_init_292 bp_28 ?_
  refine G_bipush d_X12_init_294 bp_111 ?_
  refine G_iast 28 hk_q1 rfl hb d_X12_init_296 ?_
  refine G_dup d_X12_init_297 rfl ?_
  refine G_bipush d_X12_init_298 bp_29 ?_
  refine G_bipush d_X12_init_300 bp_100 ?_
  refine G_iast 29 hk_q1 rfl hb_2 d_X12_init_302 ?_
  refine G_dup d_X12_init_303 rfl ?_
  refine G_bipush d_X12_init_304 bp_30 ?_
  refine G_bipush d_X12_init_306 bp_101 ?_
  refine G_iast 30 hk_q1 rfl hb_3 d_X12_init_308 ?_
  refine G_dup d_X12_init_309 rfl ?_
  refine G_bipush d_X12_init_310 bp_31 ?_
  refine G_bipush d_X12_init_312 bp_97 ?_
  refine G_iast 31 hk_q1 rfl hb_4 d_X12_init_314 ?_
  refine G_dup d_X12_init_315 rfl ?_
  refine G_bipush d_X12_init_316 bp_32 ?_
  refine G_bipush d_X12_init_318 bp_115 ?_
  refine G_iast 32 hk_q1 rfl hb_5 d_X12_init_320 ?_
  refine G_dup d_X12_init_321 rfl ?_
  refine G_bipush d_X12_init_322 bp_33 ?_
  refine G_bipush d_X12_init_324 bp_107 ?_
  refine G_iast 33 hk_q1 rfl hb_6 d_X12_init_326 ?_
  exact h
theorem b_X12_init_327 {X : cX} {R R' : Room} {cs sl : Nat} {μ : mM} {K : Option Value → mM → Prop} {r0 : Nat} {q0 : Nat} {q1 : Nat} {n0 : Nat} (hk_q1 : kd μ q1 = (1, n0)) (hb : 34 < n0) (hb_2 : 35 < n0) (hb_3 : 36 < n0) (hb_4 : 37 < n0) (hb_5 : 38 < n0) (hb_6 : 39 < n0) (h : G X R mX12_init 363 [(0, .ref r0)] [.ref q1, .ref q0] (wi (wi (wi (wi (wi (wi μ q1 34 109) q1 35 97) q1 36 121) q1 37 98) q1 38 101) q1 39 97) cs sl K) : G X R mX12_init 327 [(0, .ref r0)] [.ref q1, .ref q0] μ cs sl K := by
  refine G_dup d_X12_init_327 rfl ?_
  refine G_bipush d_X12_init_328 bp_34 ?_
  refine G_bipush d_X12_init_330 bp_109 ?_
  refine G_iast 34 hk_q1 rfl hb d_X12_init_332 ?_
  refine G_dup d_X12_init_333 rfl ?_
  refine G_bipush d_X12_init_334 bp_35 ?_
  refine G_bipush d_X12_init_336 bp_97 ?_
  refine G_iast 35 hk_q1 rfl hb_2 d_X12_init_338 ?_
  refine G_dup d_X12_init_339 rfl ?_
  refine G_bipush d_X12_init_340 bp_36 ?_
  refine G_bipush d_X12_init_342 bp_121 ?_
  refine G_iast 36 hk_q1 rfl hb_3 d_X12_init_344 ?_
  refine G_dup d_X12_init_345 rfl ?_
  refine G_bipush d_X12_init_346 bp_37 ?_
  refine G_bipush d_X12_init_348 bp_98 ?_
  refine G_iast 37 hk_q1 rfl hb_4 d_X12_init_350 ?_
  refine G_dup d_X12_init_351 rfl ?_
  refine G_bipush d_X12_init_352 bp_38 ?_
  refine G_bipush d_X12_init_354 bp_101 ?_
  refine G_iast 38 hk_q1 rfl hb_5 d_X12_init_356 ?_
  refine G_dup d_X12_init_357 rfl ?_
  refine G_bipush d_X12_init_358 bp_39 ?_
  refine G_bipush d_X12_init_360 bp_97 ?_
  refine G_iast 39 hk_q1 rfl hb_6 d_X12_init_362 ?_
  exact h
theorem b_X12_init_363 {X : cX} {R R' : Room} {cs sl : Nat} {μ : mM} {K : Option Value → mM → Prop} {r0 : Nat} {q0 : Nat} {q1 : Nat} {n0 : Nat} (hk_q1 : kd μ q1 = (1, n0)) (hb : 40 < n0) (hb_2 : 41 < n0) (hb_3 : 42 < n0) (hb_4 : 43 < n0) (hb_5 : 44 < n0) (hb_6 : 45 < n0) (h : G X R mX12_init 399 [(0, .ref r0)] [.ref q1, .ref q0] (wi (wi (wi (wi (wi (wi μ q1 40 108) q1 41 108) q1 42 115) q1 43 111) q1 44 109) q1 45 101) cs sl K) : G X R mX12_init 363 [(0, .ref r0)] [.ref q1, .ref q0] μ cs sl K := by
  refine G_dup d_X12_init_363 rfl ?_
  refine G_bipush d_X12_init_364 bp_40 ?_
  refine G_bipush d_X12_init_366 bp_108 ?_
  refine G_iast 40 hk_q1 rfl hb d_X12_init_368 ?_
  refine G_dup d_X12_init_369 rfl ?_
  refine G_bipush d_X12_init_370 bp_41 ?_
  refine G_bipush d_X12_init_372 bp_108 ?_
  refine G_iast 41 hk_q1 rfl hb_2 d_X12_init_374 ?_
  refine G_dup d_X12_init_375 rfl ?_
  refine G_bipush d_X12_init_376 bp_42 ?_
  refine G_bipush d_X12_init_378 bp_115 ?_
  refine G_iast 42 hk_q1 rfl hb_3 d_X12_init_380 ?_
  refine G_dup d_X12_init_381 rfl ?_
  refine G_bipush d_X12_init_382 bp_43 ?_
  refine G_bipush d_X12_init_384 bp_111 ?_
  refine G_iast 43 hk_q1 rfl hb_4 d_X12_init_386 ?_
  refine G_dup d_X12_init_387 rfl ?_
  refine G_bipush d_X12_init_388 bp_44 ?_
  refine G_bipush d_X12_init_390 bp_109 ?_
  refine G_iast 44 hk_q1 rfl hb_5 d_X12_init_392 ?_
  refine G_dup d_X12_init_393 rfl ?_
  refine G_bipush d_X12_init_394 bp_45 ?_
  refine G_bipush d_X12_init_396 bp_101 ?_
  refine G_iast 45 hk_q1 rfl hb_6 d_X12_init_398 ?_
  exact h
theorem b_X12_init_399 {X : cX} {R R' : Room} {cs sl : Nat} {μ : mM} {K : Option Value → mM → Prop} {r0 : Nat} {q0 : Nat} {q1 : Nat} (hk_q0 : kd μ q0 = (0, 12)) (h : G X R mX12_init 402 [(0, .ref r0)] [] (wr μ q0 16 (some q1)) cs sl K) : G X R mX12_init 399 [(0, .ref r0)] [.ref q1, .ref q0] μ cs sl K := by
  refine G_putR 12 16 hk_q0 cok12 (by decide) rfl (Or.inr ⟨rfl, rfl⟩) fl_X12_25 d_X12_init_399 ?_
  exact h
theorem b_X12_init_402 {X : cX} {R R' : Room} {cs sl : Nat} {μ : mM} {K : Option Value → mM → Prop} {r0 : Nat} (hc1 : cs + 1 ≤ R.cells) (hs36 : sl + 36 ≤ R.slots) (h : G X R mX12_init 407 [(0, .ref r0)] [.ref (sz μ), .ref r0] (al μ (1, 36)) (cs + 1) (sl + 36) K) : G X R mX12_init 402 [(0, .ref r0)] [] μ cs sl K := by
  refine G_aload_n d_X12_init_402 rfl 0 rfl ?_
  refine G_bipush d_X12_init_403 bp_36 ?_
  refine G_newI (N := 36) rfl (by decide) hc1 hs36 d_X12_init_405 ?_
  exact h
theorem b_X12_init_407 {X : cX} {R R' : Room} {cs sl : Nat} {μ : mM} {K : Option Value → mM → Prop} {r0 : Nat} {q0 : Nat} {q1 : Nat} (hk_q0 : kd μ q0 = (0, 12)) (h : G X R mX12_init 410 [(0, .ref r0)] [] (wr μ q0 17 (some q1)) cs sl K) : G X R mX12_init 407 [(0, .ref r0)] [.ref q1, .ref q0] μ cs sl K := by
  refine G_putR 12 17 hk_q0 cok12 (by decide) rfl (Or.inr ⟨rfl, rfl⟩) fl_X12_28 d_X12_init_407 ?_
  exact h
theorem b_X12_init_410 {X : cX} {R R' : Room} {cs sl : Nat} {μ : mM} {K : Option Value → mM → Prop} {r0 : Nat} (hc1 : cs + 1 ≤ R.cells) (hs3 : sl + 3 ≤ R.slots) (h : G X R mX12_init 414 [(0, .ref r0)] [.ref (sz μ), .ref r0] (al μ (1, 3)) (cs + 1) (sl + 3) K) : G X R mX12_init 410 [(0, .ref r0)] [] μ cs sl K := by
  refine G_aload_n d_X12_init_410 rfl 0 rfl ?_
  refine G_iconst d_X12_init_411 ic_3 ?_
  refine G_newI (N := 3) rfl (by decide) hc1 hs3 d_X12_init_412 ?_
  exact h
theorem b_X12_init_414 {X : cX} {R R' : Room} {cs sl : Nat} {μ : mM} {K : Option Value → mM → Prop} {r0 : Nat} {q0 : Nat} {q1 : Nat} (hk_q0 : kd μ q0 = (0, 12)) (h : G X R mX12_init 417 [(0, .ref r0)] [] (wr μ q0 18 (some q1)) cs sl K) : G X R mX12_init 414 [(0, .ref r0)] [.ref q1, .ref q0] μ cs sl K := by
  refine G_putR 12 18 hk_q0 cok12 (by decide) rfl (Or.inr ⟨rfl, rfl⟩) fl_X12_31 d_X12_init_414 ?_
  exact h
theorem b_X12_init_417 {X : cX} {R R' : Room} {cs sl : Nat} {μ : mM} {K : Option Value → mM → Prop} {r0 : Nat} (hc1 : cs + 1 ≤ R.cells) (hs13 : sl + 13 ≤ R.slots) (h : G X R mX12_init 422 [(0, .ref r0)] [.ref (sz μ), .ref r0] (al μ (1, 13)) (cs + 1) (sl + 13) K) : G X R mX12_init 417 [(0, .ref r0)] [] μ cs sl K := by
  refine G_aload_n d_X12_init_417 rfl 0 rfl ?_
  refine G_bipush d_X12_init_418 bp_13 ?_
  refine G_newI (N := 13) rfl (by decide) hc1 hs13 d_X12_init_420 ?_
  exact h
theorem b_X12_init_422 {X : cX} {R R' : Room} {cs sl : Nat} {μ : mM} {K : Option Value → mM → Prop} {r0 : Nat} {q0 : Nat} {q1 : Nat} (hk_q0 : kd μ q0 = (0, 12)) (h : G X R mX12_init 425 [(0, .ref r0)] [] (wr μ q0 19 (some q1)) cs sl K) : G X R mX12_init 422 [(0, .ref r0)] [.ref q1, .ref q0] μ cs sl K := by
  refine G_putR 12 19 hk_q0 cok12 (by decide) rfl (Or.inr ⟨rfl, rfl⟩) fl_X12_34 d_X12_init_422 ?_
  exact h
theorem b_X12_init_425 {X : cX} {R R' : Room} {cs sl : Nat} {μ : mM} {K : Option Value → mM → Prop} {r0 : Nat} (hc1 : cs + 1 ≤ R.cells) (hs6 : sl + 6 ≤ R.slots) (h : G X R mX12_init 430 [(0, .ref r0)] [.ref (sz μ), .ref r0] (al μ (1, 6)) (cs + 1) (sl + 6) K) : G X R mX12_init 425 [(0, .ref r0)] [] μ cs sl K := by
  refine G_aload_n d_X12_init_425 rfl 0 rfl ?_
  refine G_bipush d_X12_init_426 bp_6 ?_
  refine G_newI (N := 6) rfl (by decide) hc1 hs6 d_X12_init_428 ?_
  exact h
theorem b_X12_init_430 {X : cX} {R R' : Room} {cs sl : Nat} {μ : mM} {K : Option Value → mM → Prop} {r0 : Nat} {q0 : Nat} {q1 : Nat} (hk_q0 : kd μ q0 = (0, 12)) (h : G X R mX12_init 433 [(0, .ref r0)] [] (wr μ q0 20 (some q1)) cs sl K) : G X R mX12_init 430 [(0, .ref r0)] [.ref q1, .ref q0] μ cs sl K := by
  refine G_putR 12 20 hk_q0 cok12 (by decide) rfl (Or.inr ⟨rfl, rfl⟩) fl_X12_37 d_X12_init_430 ?_
  exact h
theorem b_X12_init_433 {X : cX} {R R' : Room} {cs sl : Nat} {μ : mM} {K : Option Value → mM → Prop} {r0 : Nat} (hc1 : cs + 1 ≤ R.cells) (hs18 : sl + 18 ≤ R.slots) (h : G X R mX12_init 438 [(0, .ref r0)] [.ref (sz μ), .ref r0] (al μ (1, 18)) (cs + 1) (sl + 18) K) : G X R mX12_init 433 [(0, .ref r0)] [] μ cs sl K := by
  refine G_aload_n d_X12_init_433 rfl 0 rfl ?_
  refine G_bipush d_X12_init_434 bp_18 ?_
  refine G_newI (N := 18) rfl (by decide) hc1 hs18 d_X12_init_436 ?_
  exact h
theorem b_X12_init_438 {X : cX} {R R' : Room} {cs sl : Nat} {μ : mM} {K : Option Value → mM → Prop} {r0 : Nat} {q0 : Nat} {q1 : Nat} (hk_q0 : kd μ q0 = (0, 12)) (h : G X R mX12_init 441 [(0, .ref r0)] [] (wr μ q0 21 (some q1)) cs sl K) : G X R mX12_init 438 [(0, .ref r0)] [.ref q1, .ref q0] μ cs sl K := by
  refine G_putR 12 21 hk_q0 cok12 (by decide) rfl (Or.inr ⟨rfl, rfl⟩) fl_X12_40 d_X12_init_438 ?_
  exact h
theorem b_X12_init_441 {X : cX} {R R' : Room} {cs sl : Nat} {μ : mM} {K : Option Value → mM → Prop} {r0 : Nat} (hc1 : cs + 1 ≤ R.cells) (hs2 : sl + 2 ≤ R.slots) (h : G X R mX12_init 445 [(0, .ref r0)] [.ref (sz μ), .ref r0] (al μ (3, 2)) (cs + 1) (sl + 2) K) : G X R mX12_init 441 [(0, .ref r0)] [] μ cs sl K := by
  refine G_aload_n d_X12_init_441 rfl 0 rfl ?_
  refine G_iconst d_X12_init_442 ic_2 ?_
  refine G_newZ (N := 2) rfl (by decide) hc1 hs2 d_X12_init_443 ?_
  exact h
theorem b_X12_init_445 {X : cX} {R R' : Room} {cs sl : Nat} {μ : mM} {K : Option Value → mM → Prop} {r0 : Nat} {q0 : Nat} {q1 : Nat} {n0 : Nat} (hk_q1 : kd μ q1 = (3, n0)) (hb : 0 < n0) (hb_2 : 1 < n0) (hk_q0 : kd μ q0 = (0, 12)) (h : G X R mX12_init 456 [(0, .ref r0)] [] (wr (wi (wi μ q1 0 0) q1 1 0) q0 23 (some q1)) cs sl K) : G X R mX12_init 445 [(0, .ref r0)] [.ref q1, .ref q0] μ cs sl K := by
  refine G_dup d_X12_init_445 rfl ?_
  refine G_iconst d_X12_init_446 ic_0 ?_
  refine G_iconst d_X12_init_447 ic_0 ?_
  refine G_zast (v := 0) 0 hk_q1 rfl hb rfl d_X12_init_448 ?_
  refine G_dup d_X12_init_449 rfl ?_
  refine G_iconst d_X12_init_450 ic_1 ?_
  refine G_iconst d_X12_init_451 ic_0 ?_
  refine G_zast (v := 0) 1 hk_q1 rfl hb_2 rfl d_X12_init_452 ?_
  refine G_putR 12 23 hk_q0 cok12 (by decide) rfl (Or.inr ⟨rfl, rfl⟩) fl_X12_43 d_X12_init_453 ?_
  exact h
theorem b_X12_init_456 {X : cX} {R R' : Room} {cs sl : Nat} {μ : mM} {K : Option Value → mM → Prop} {r0 : Nat} (hc1 : cs + 1 ≤ R.cells) (hs7 : sl + 7 ≤ R.slots) (h : G X R mX12_init 461 [(0, .ref r0)] [.ref (sz μ), .ref r0] (al μ (1, 7)) (cs + 1) (sl + 7) K) : G X R mX12_init 456 [(0, .ref r0)] [] μ cs sl K := by
  refine G_aload_n d_X12_init_456 rfl 0 rfl ?_
  refine G_bipush d_X12_init_457 bp_7 ?_
  refine G_newI (N := 7) rfl (by decide) hc1 hs7 d_X12_init_459 ?_
  exact h
theorem b_X12_init_461 {X : cX} {R R' : Room} {cs sl : Nat} {μ : mM} {K : Option Value → mM → Prop} {r0 : Nat} {q0 : Nat} {q1 : Nat} (hk_q0 : kd μ q0 = (0, 12)) (h : G X R mX12_init 464 [(0, .ref r0)] [] (wr μ q0 24 (some q1)) cs sl K) : G X R mX12_init 461 [(0, .ref r0)] [.ref q1, .ref q0] μ cs sl K := by
  refine G_putR 12 24 hk_q0 cok12 (by decide) rfl (Or.inr ⟨rfl, rfl⟩) fl_X12_47 d_X12_init_461 ?_
  exact h
theorem b_X12_init_464 {X : cX} {R R' : Room} {cs sl : Nat} {μ : mM} {K : Option Value → mM → Prop} {r0 : Nat} (hc1 : cs + 1 ≤ R.cells) (hs4 : sl + 4 ≤ R.slots) (h : G X R mX12_init 468 [(0, .ref r0)] [.ref (sz μ), .ref r0] (al μ (1, 4)) (cs + 1) (sl + 4) K) : G X R mX12_init 464 [(0, .ref r0)] [] μ cs sl K := by
  refine G_aload_n d_X12_init_464 rfl 0 rfl ?_
  refine G_iconst d_X12_init_465 ic_4 ?_
  refine G_newI (N := 4) rfl (by decide) hc1 hs4 d_X12_init_466 ?_
  exact h
theorem b_X12_init_468 {X : cX} {R R' : Room} {cs sl : Nat} {μ : mM} {K : Option Value → mM → Prop} {r0 : Nat} {q0 : Nat} {q1 : Nat} {n0 : Nat} (hk_q1 : kd μ q1 = (1, n0)) (hb : 0 < n0) (hb_2 : 1 < n0) (hb_3 : 2 < n0) (hb_4 : 3 < n0) (hk_q0 : kd μ q0 = (0, 12)) (h : G X R mX12_init 491 [(0, .ref r0)] [] (wr (wi (wi (wi (wi μ q1 0 (-4)) q1 1 (-4)) q1 2 (-4)) q1 3 (-4)) q0 25 (some q1)) cs sl K) : G X R mX12_init 468 [(0, .ref r0)] [.ref q1, .ref q0] μ cs sl K := by
  refine G_dup d_X12_init_468 rfl ?_
  refine G_iconst d_X12_init_469 ic_0 ?_
  refine G_bipush d_X12_init_470 bp_m4 ?_
  refine G_iast 0 hk_q1 rfl hb d_X12_init_472 ?_
  refine G_dup d_X12_init_473 rfl ?_
  refine G_iconst d_X12_init_474 ic_1 ?_
  refine G_bipush d_X12_init_475 bp_m4 ?_
  refine G_iast 1 hk_q1 rfl hb_2 d_X12_init_477 ?_
  refine G_dup d_X12_init_478 rfl ?_
  refine G_iconst d_X12_init_479 ic_2 ?_
  refine G_bipush d_X12_init_480 bp_m4 ?_
  refine G_iast 2 hk_q1 rfl hb_3 d_X12_init_482 ?_
  refine G_dup d_X12_init_483 rfl ?_
  refine G_iconst d_X12_init_484 ic_3 ?_
  refine G_bipush d_X12_init_485 bp_m4 ?_
  refine G_iast 3 hk_q1 rfl hb_4 d_X12_init_487 ?_
  refine G_putR 12 25 hk_q0 cok12 (by decide) rfl (Or.inr ⟨rfl, rfl⟩) fl_X12_50 d_X12_init_488 ?_
  exact h
theorem b_X12_init_491 {X : cX} {R R' : Room} {cs sl : Nat} {μ : mM} {K : Option Value → mM → Prop} {r0 : Nat} (hc1 : cs + 1 ≤ R.cells) (hs4 : sl + 4 ≤ R.slots) (h : G X R mX12_init 495 [(0, .ref r0)] [.ref (sz μ), .ref r0] (al μ (1, 4)) (cs + 1) (sl + 4) K) : G X R mX12_init 491 [(0, .ref r0)] [] μ cs sl K := by
  refine G_aload_n d_X12_init_491 rfl 0 rfl ?_
  refine G_iconst d_X12_init_492 ic_4 ?_
  refine G_newI (N := 4) rfl (by decide) hc1 hs4 d_X12_init_493 ?_
  exact h
theorem b_X12_init_495 {X : cX} {R R' : Room} {cs sl : Nat} {μ : mM} {K : Option Value → mM → Prop} {r0 : Nat} {q0 : Nat} {q1 : Nat} {n0 : Nat} (hk_q1 : kd μ q1 = (1, n0)) (hb : 0 < n0) (hb_2 : 1 < n0) (h : G X R mX12_init 503 [(0, .ref r0)] [.ref q1, .ref q0] (wi (wi μ q1 0 0) q1 1 0) cs sl K) : G X R mX12_init 495 [(0, .ref r0)] [.ref q1, .ref q0] μ cs sl K := by
  refine G_dup d_X12_init_495 rfl ?_
  refine G_iconst d_X12_init_496 ic_0 ?_
  refine G_iconst d_X12_init_497 ic_0 ?_
  refine G_iast 0 hk_q1 rfl hb d_X12_init_498 ?_
  refine G_dup d_X12_init_499 rfl ?_
  refine G_iconst d_X12_init_500 ic_1 ?_
  refine G_iconst d_X12_init_501 ic_0 ?_
  refine G_iast 1 hk_q1 rfl hb_2 d_X12_init_502 ?_
  exact h
theorem b_X12_init_503 {X : cX} {R R' : Room} {cs sl : Nat} {μ : mM} {K : Option Value → mM → Prop} {r0 : Nat} {q0 : Nat} {q1 : Nat} {n0 : Nat} (hk_q1 : kd μ q1 = (1, n0)) (hb : 2 < n0) (hb_2 : 3 < n0) (hk_q0 : kd μ q0 = (0, 12)) (h : G X R mX12_init 514 [(0, .ref r0)] [] (wr (wi (wi μ q1 2 0) q1 3 0) q0 26 (some q1)) cs sl K) : G X R mX12_init 503 [(0, .ref r0)] [.ref q1, .ref q0] μ cs sl K := by
  refine G_dup d_X12_init_503 rfl ?_
  refine G_iconst d_X12_init_504 ic_2 ?_
  refine G_iconst d_X12_init_505 ic_0 ?_
  refine G_iast 2 hk_q1 rfl hb d_X12_init_506 ?_
  refine G_dup d_X12_init_507 rfl ?_
  refine G_iconst d_X12_init_508 ic_3 ?_
  refine G_iconst d_X12_init_509 ic_0 ?_
  refine G_iast 3 hk_q1 rfl hb_2 d_X12_init_510 ?_
  refine G_putR 12 26 hk_q0 cok12 (by decide) rfl (Or.inr ⟨rfl, rfl⟩) fl_X12_53 d_X12_init_511 ?_
  exact h
theorem b_X12_init_514 {X : cX} {R R' : Room} {cs sl : Nat} {μ : mM} {K : Option Value → mM → Prop} {r0 : Nat} (hc1 : cs + 1 ≤ R.cells) (hs160 : sl + 160 ≤ R.slots) (h : G X R mX12_init 520 [] [.ref (sz μ), .ref r0] (al μ (1, 160)) (cs + 1) (sl + 160) K) : G X R mX12_init 514 [(0, .ref r0)] [] μ cs sl K := by
  refine G_aload_n d_X12_init_514 rfl 0 rfl ?_
  refine G_sipush d_X12_init_515 sp_160 ?_
  refine G_newI (N := 160) rfl (by decide) hc1 hs160 d_X12_init_518 ?_
  refine G_sub (L' := []) [] rfl ?_
  exact h
theorem b_X12_init_520 {X : cX} {R R' : Room} {cs sl : Nat} {μ : mM} {K : Option Value → mM → Prop} {q0 : Nat} {q1 : Nat} (hk_q0 : kd μ q0 = (0, 12)) (h : G X R mX12_init 523 [] [] (wr μ q0 27 (some q1)) cs sl K) : G X R mX12_init 520 [] [.ref q1, .ref q0] μ cs sl K := by
  refine G_putR 12 27 hk_q0 cok12 (by decide) rfl (Or.inr ⟨rfl, rfl⟩) fl_X12_56 d_X12_init_520 ?_
  exact h
theorem b_X12_init_523 {X : cX} {R R' : Room} {cs sl : Nat} {μ : mM} {K : Option Value → mM → Prop}  (hK : K none μ) (hcs : cs = R.cells) (hsl : sl = R.slots) : G X R mX12_init 523 [] [] μ cs sl K := by
  exact G_vret rfl hcs hsl d_X12_init_523 hK
