theorem b_X11_formula_0c {X : cX} {d : Nat} {μ : mM} {K : Option Value → mM → Prop} {r0 : Nat} {i1 : Nat} {l2 : Int32} {p0 : Nat} (hK : (nI i1) < 0 → K (some (.int (-1))) μ) (hw11_r0 : WF11 μ r0) (hr_p0 : rv μ r0 2 = some p0) (hw10_p0 : WF10 μ p0) (hb : ¬ (nI i1) < 0 → (nI i1) < (iv μ p0 2) → i1 < 4) (hw3_p0268i1 : ¬ (nI i1) < 0 → (nI i1) < (iv μ p0 2) → l2 = 0 → WF3 μ (p0 + 26 + 8 * i1)) (hK_2 : ¬ (nI i1) < 0 → (nI i1) < (iv μ p0 2) → l2 = 0 → K (some (.int (iv μ (p0 + 26 + 8 * i1) 0))) μ) (hw3_p0268i1_2 : ¬ (nI i1) < 0 → (nI i1) < (iv μ p0 2) → l2 = 1 → WF3 μ (p0 + 26 + 8 * i1)) (hc_allBits : ¬ (nI i1) < 0 → (nI i1) < (iv μ p0 2) → l2 = 1 → Ct X (Rm d) mX3_allBits [.ref (p0 + 26 + 8 * i1)] μ (fun r μ2 => G X (Rm (d + 1)) mX11_formula 69 [] (r.toList ++ []) μ2 0 0 K)) (hw3_p0268i1_3 : ¬ (nI i1) < 0 → (nI i1) < (iv μ p0 2) → l2 = 2 → WF3 μ (p0 + 26 + 8 * i1)) (hK_3 : ¬ (nI i1) < 0 → (nI i1) < (iv μ p0 2) → l2 = 2 → K (some (.int (iv μ (p0 + 26 + 8 * i1) 3))) μ) (hw3_p0268i1_4 : ¬ (nI i1) < 0 → (nI i1) < (iv μ p0 2) → l2 = 3 → WF3 μ (p0 + 26 + 8 * i1)) (hK_4 : ¬ (nI i1) < 0 → (nI i1) < (iv μ p0 2) → l2 = 3 → K (some (.int (iv μ (p0 + 26 + 8 * i1) 8))) μ) (hK_5 : ¬ (nI i1) < 0 → (nI i1) < (iv μ p0 2) → (l2.toInt < 0 ∨ 3 < l2.toInt) → K (some (.int (-1))) μ) (hK_6 : ¬ (nI i1) < 0 → ¬ (nI i1) < (iv μ p0 2) → K (some (.int (-1))) μ) : G X (Rm (d + 1)) mX11_formula 0 [(0, .ref r0), (1, .int (nI i1)), (2, .int l2)] [] μ 0 0 K := by
  refine G_iload_n d_X11_formula_0 rfl 1 rfl ?_
  refine G_if_lt (tgt := 15) d_X11_formula_1 rfl (fun c0 => ?_) (fun c0 => ?_)
  ·
    refine G_iconst d_X11_formula_15 ic_m1 ?_
    exact G_iret rfl rfl rfl d_X11_formula_16 (hK c0)
  ·
    refine G_iload_n d_X11_formula_4 rfl 1 rfl ?_
    refine G_aload_n d_X11_formula_5 rfl 0 rfl ?_
    refine G_getR (r := p0) 11 2 (w11_kd hw11_r0) hr_p0 cok11 (by decide) rfl fl_X11_26 d_X11_formula_6 ?_
    refine G_getI 10 2 (w10_kd hw10_p0) cok10 (by decide) rfl fl_X11_120 d_X11_formula_9 ?_
    refine G_icmp_lt (tgt := 17) d_X11_formula_12 rfl (fun c1 => ?_) (fun c1 => ?_)
    ·
      refine G_aload_n d_X11_formula_17 rfl 0 rfl ?_
      refine G_getR (r := p0) 11 2 (w11_kd hw11_r0) hr_p0 cok11 (by decide) rfl fl_X11_26 d_X11_formula_18 ?_
      refine G_getR (r := p0 + 25) 10 1 (w10_kd hw10_p0) (w10_f1 hw10_p0) cok10 (by decide) rfl fl_X11_171 d_X11_formula_21 ?_
      refine G_iload_n d_X11_formula_24 rfl 1 rfl ?_
      refine G_aaldF (r := p0 + 26 + 8 * i1) i1 (w10_k1 hw10_p0) rfl (hb c0 c1) (w10_r1 hw10_p0 i1 (hb c0 c1)) d_X11_formula_25 ?_
      refine G_astore_n (L' := [(3, .ref (p0 + 26 + 8 * i1)), (0, .ref r0), (1, .int (nI i1)), (2, .int l2)]) d_X11_formula_26 rfl (by decide) rfl ?_
      refine G_iload_n d_X11_formula_27 rfl 3 rfl ?_
      by_cases c2 : l2 = 0
      ·
        refine G_tableIn (tgt := 60) (off := 32) d_X11_formula_28 (by rw [c2]; decide) (by rw [c2]; decide) (by rw [c2]; decide) rfl ?_
        refine G_aload_n d_X11_formula_60 rfl 0 rfl ?_
        refine G_getI 3 0 (w3_kd (hw3_p0268i1 c0 c1 c2)) cok3 (by decide) rfl fl_X11_181 d_X11_formula_61 ?_
        exact G_iret rfl rfl rfl d_X11_formula_64 (hK_2 c0 c1 c2)
      have z0 := lv_neT c2 (show (0 : Int32).toInt = 0 from rfl)
      by_cases c2 : l2 = 1
      ·
        refine G_tableIn (tgt := 65) (off := 37) d_X11_formula_28 (by rw [c2]; decide) (by rw [c2]; decide) (by rw [c2]; decide) rfl ?_
        refine G_aload_n d_X11_formula_65 rfl 0 rfl ?_
        refine G_sub (L' := []) [] rfl ?_
        refine G_callV (M' := mX3_allBits) (R' := (Rm d)) (S := []) [] 3 (w3_kd (hw3_p0268i1_2 c0 c1 c2)) cok3 rfl ok_X3_allBits ml_X11_184 pn_X3_allBits (ru_Rm (by decide)) (Nat.le_of_ble_eq_true rfl) d_X11_formula_66 ?_
        exact (hc_allBits c0 c1 c2)
      have z1 := lv_neT c2 (show (1 : Int32).toInt = 1 from rfl)
      by_cases c2 : l2 = 2
      ·
        refine G_tableIn (tgt := 70) (off := 42) d_X11_formula_28 (by rw [c2]; decide) (by rw [c2]; decide) (by rw [c2]; decide) rfl ?_
        refine G_aload_n d_X11_formula_70 rfl 0 rfl ?_
        refine G_getI 3 3 (w3_kd (hw3_p0268i1_3 c0 c1 c2)) cok3 (by decide) rfl fl_X11_187 d_X11_formula_71 ?_
        exact G_iret rfl rfl rfl d_X11_formula_74 (hK_3 c0 c1 c2)
      have z2 := lv_neT c2 (show (2 : Int32).toInt = 2 from rfl)
      by_cases c2 : l2 = 3
      ·
        refine G_tableIn (tgt := 75) (off := 47) d_X11_formula_28 (by rw [c2]; decide) (by rw [c2]; decide) (by rw [c2]; decide) rfl ?_
        refine G_aload_n d_X11_formula_75 rfl 0 rfl ?_
        refine G_getI 3 8 (w3_kd (hw3_p0268i1_4 c0 c1 c2)) cok3 (by decide) rfl fl_X11_190 d_X11_formula_76 ?_
        exact G_iret rfl rfl rfl d_X11_formula_79 (hK_4 c0 c1 c2)
      have z3 := lv_neT c2 (show (3 : Int32).toInt = 3 from rfl)
      have c2 : l2.toInt < 0 ∨ 3 < l2.toInt := by omega
      refine G_tableOut (tgt := 80) d_X11_formula_28 c2 rfl ?_
      refine G_iconst d_X11_formula_80 ic_m1 ?_
      exact G_iret rfl rfl rfl d_X11_formula_81 (hK_5 c0 c1 c2)
    ·
      refine G_iconst d_X11_formula_15 ic_m1 ?_
      exact G_iret rfl rfl rfl d_X11_formula_16 (hK_6 c0 c1)
theorem b_X11_sheet_0c {X : cX} {d : Nat} {μ : mM} {K : Option Value → mM → Prop} {r0 : Nat} {i1 : Nat} {l2 : Int32} {l3 : Int32} (hK : (e_X11_isSheet μ (nI i1)) = 0 → K (some (.int (-1))) μ) (hK_2 : ¬ (e_X11_isSheet μ (nI i1)) = 0 → (e_X11_isLane μ l2) = 0 → K (some (.int (-1))) μ) (hw11_r0 : WF11 μ r0) (hb : ¬ (e_X11_isSheet μ (nI i1)) = 0 → ¬ (e_X11_isLane μ l2) = 0 → l3 ≤ (40 : Int32) → 0 ≤ l3 → i1 < 4) (hw7_r02522i1 : ¬ (e_X11_isSheet μ (nI i1)) = 0 → ¬ (e_X11_isLane μ l2) = 0 → l3 ≤ (40 : Int32) → 0 ≤ l3 → WF7 μ (r0 + 252 + 2 * i1)) (hc_renew : ¬ (e_X11_isSheet μ (nI i1)) = 0 → ¬ (e_X11_isLane μ l2) = 0 → l3 ≤ (40 : Int32) → 0 ≤ l3 → Ct X (Rm (d + 1)) mX7_renew [.ref (r0 + 252 + 2 * i1), .int l2, .int l3] μ (fun r μ2 => G X (Rm (d + 2)) mX11_sheet 40 [] (r.toList ++ []) μ2 0 0 K)) (hK_3 : ¬ (e_X11_isSheet μ (nI i1)) = 0 → ¬ (e_X11_isLane μ l2) = 0 → l3 ≤ (40 : Int32) → ¬ 0 ≤ l3 → K (some (.int (-14))) μ) (hK_4 : ¬ (e_X11_isSheet μ (nI i1)) = 0 → ¬ (e_X11_isLane μ l2) = 0 → ¬ l3 ≤ (40 : Int32) → K (some (.int (-1))) μ) : G X (Rm (d + 2)) mX11_sheet 0 [(0, .ref r0), (1, .int (nI i1)), (2, .int l2), (3, .int l3)] [] μ 0 0 K := by
  refine G_iload_n d_X11_sheet_0 rfl 1 rfl ?_
  refine G_callS (M' := mX11_isSheet) (R' := (Rm (d + 1))) (S := []) [.int (nI i1)] ok_X11_isSheet ml_X11_239 pn_X11_isSheet (ru_Rm (by decide)) (Nat.le_of_ble_eq_true rfl) d_X11_sheet_1 (s_X11_isSheet (μ := μ)   ?_)
  show G X (Rm (d + 2)) mX11_sheet 4 [(0, .ref r0), (1, .int (nI i1)), (2, .int l2), (3, .int l3)] [.int (e_X11_isSheet μ (nI i1))] μ 0 0 K
  refine G_if_eq (tgt := 20) d_X11_sheet_4 rfl (fun c0 => ?_) (fun c0 => ?_)
  ·
    refine G_iconst d_X11_sheet_20 ic_m1 ?_
    exact G_iret rfl rfl rfl d_X11_sheet_21 (hK c0)
  ·
    refine G_iload_n d_X11_sheet_7 rfl 2 rfl ?_
    refine G_callS (M' := mX11_isLane) (R' := (Rm (d + 1))) (S := []) [.int l2] ok_X11_isLane ml_X11_242 pn_X11_isLane (ru_Rm (by decide)) (Nat.le_of_ble_eq_true rfl) d_X11_sheet_8 (s_X11_isLane (μ := μ)   ?_)
    show G X (Rm (d + 2)) mX11_sheet 11 [(0, .ref r0), (1, .int (nI i1)), (2, .int l2), (3, .int l3)] [.int (e_X11_isLane μ l2)] μ 0 0 K
    refine G_if_eq (tgt := 20) d_X11_sheet_11 rfl (fun c1 => ?_) (fun c1 => ?_)
    ·
      refine G_iconst d_X11_sheet_20 ic_m1 ?_
      exact G_iret rfl rfl rfl d_X11_sheet_21 (hK_2 c0 c1)
    ·
      refine G_iload_n d_X11_sheet_14 rfl 3 rfl ?_
      refine G_bipush d_X11_sheet_15 bp_40 ?_
      refine G_icmp_le (tgt := 22) d_X11_sheet_17 rfl (fun c2 => ?_) (fun c2 => ?_)
      ·
        refine G_iload_n d_X11_sheet_22 rfl 3 rfl ?_
        refine G_if_ge (tgt := 29) d_X11_sheet_23 rfl (fun c3 => ?_) (fun c3 => ?_)
        ·
          refine G_aload_n d_X11_sheet_29 rfl 0 rfl ?_
          refine G_getR (r := r0 + 122) 11 6 (w11_kd hw11_r0) (w11_f6 hw11_r0) cok11 (by decide) rfl fl_X11_42 d_X11_sheet_30 ?_
          refine G_iload_n d_X11_sheet_33 rfl 1 rfl ?_
          refine G_aaldT (r := r0 + 252 + 2 * i1) i1 (w11_k6 hw11_r0) rfl (hb c0 c1 c2 c3) (w11_r6 hw11_r0 i1 (hb c0 c1 c2 c3)) d_X11_sheet_34 ?_
          refine G_iload_n d_X11_sheet_35 rfl 2 rfl ?_
          refine G_iload_n d_X11_sheet_36 rfl 3 rfl ?_
          refine G_sub (L' := []) [] rfl ?_
          refine G_callV (M' := mX7_renew) (R' := (Rm (d + 1))) (S := []) [.int l2, .int l3] 7 (w7_kd (hw7_r02522i1 c0 c1 c2 c3)) cok7 rfl ok_X7_renew ml_X11_245 pn_X7_renew (ru_Rm (by decide)) (Nat.le_of_ble_eq_true rfl) d_X11_sheet_37 ?_
          exact (hc_renew c0 c1 c2 c3)
        ·
          refine G_bipush d_X11_sheet_26 bp_m14 ?_
          exact G_iret rfl rfl rfl d_X11_sheet_28 (hK_3 c0 c1 c2 c3)
      ·
        refine G_iconst d_X11_sheet_20 ic_m1 ?_
        exact G_iret rfl rfl rfl d_X11_sheet_21 (hK_4 c0 c1 c2)
theorem b_X11_lay_0c {X : cX} {d : Nat} {μ : mM} {K : Option Value → mM → Prop} {r0 : Nat} {i1 : Nat} {l2 : Int32} {l3 : Int32} (hw11_r0 : WF11 μ r0) (hb : ¬ (e_X11_isSheet μ (nI i1)) = 0 → i1 < 4) (hw7_r02522i1 : ¬ (e_X11_isSheet μ (nI i1)) = 0 → WF7 μ (r0 + 252 + 2 * i1)) (hb_2 : ¬ (e_X11_isSheet μ (nI i1)) = 0 → (e_X7_findTaken μ (r0 + 252 + 2 * i1) (iv μ (r0 + 252 + 2 * i1) 1) l2 1) = 0 → i1 < 4) (hw7_r02522i1_2 : ¬ (e_X11_isSheet μ (nI i1)) = 0 → (e_X7_findTaken μ (r0 + 252 + 2 * i1) (iv μ (r0 + 252 + 2 * i1) 1) l2 1) = 0 → WF7 μ (r0 + 252 + 2 * i1)) (hc_put : ¬ (e_X11_isSheet μ (nI i1)) = 0 → (e_X7_findTaken μ (r0 + 252 + 2 * i1) (iv μ (r0 + 252 + 2 * i1) 1) l2 1) = 0 → Ct X (Rm (d + 1)) mX7_put [.ref (r0 + 252 + 2 * i1), .int l2, .int l3] μ (fun r μ2 => G X (Rm (d + 2)) mX11_lay 53 [] (r.toList ++ []) μ2 0 0 K)) (hK : ¬ (e_X11_isSheet μ (nI i1)) = 0 → ¬ (e_X7_findTaken μ (r0 + 252 + 2 * i1) (iv μ (r0 + 252 + 2 * i1) 1) l2 1) = 0 → K (some (.int (((-10) : Int32) - (e_X7_findTaken μ (r0 + 252 + 2 * i1) (iv μ (r0 + 252 + 2 * i1) 1) l2 1)))) μ) (hK_2 : (e_X11_isSheet μ (nI i1)) = 0 → K (some (.int (-1))) μ) : G X (Rm (d + 2)) mX11_lay 0 [(0, .ref r0), (1, .int (nI i1)), (2, .int l2), (3, .int l3)] [] μ 0 0 K := by
  refine G_iload_n d_X11_lay_0 rfl 1 rfl ?_
  refine G_callS (M' := mX11_isSheet) (R' := (Rm (d + 1))) (S := []) [.int (nI i1)] ok_X11_isSheet ml_X11_239 pn_X11_isSheet (ru_Rm (by decide)) (Nat.le_of_ble_eq_true rfl) d_X11_lay_1 (s_X11_isSheet (μ := μ)   ?_)
  show G X (Rm (d + 2)) mX11_lay 4 [(0, .ref r0), (1, .int (nI i1)), (2, .int l2), (3, .int l3)] [.int (e_X11_isSheet μ (nI i1))] μ 0 0 K
  refine G_if_ne (tgt := 9) d_X11_lay_4 rfl (fun c0 => ?_) (fun c0 => ?_)
  ·
    refine G_aload_n d_X11_lay_9 rfl 0 rfl ?_
    refine G_getR (r := r0 + 122) 11 6 (w11_kd hw11_r0) (w11_f6 hw11_r0) cok11 (by decide) rfl fl_X11_42 d_X11_lay_10 ?_
    refine G_iload_n d_X11_lay_13 rfl 1 rfl ?_
    refine G_aaldT (r := r0 + 252 + 2 * i1) i1 (w11_k6 hw11_r0) rfl (hb c0) (w11_r6 hw11_r0 i1 (hb c0)) d_X11_lay_14 ?_
    refine G_aload_n d_X11_lay_15 rfl 0 rfl ?_
    refine G_getR (r := r0 + 122) 11 6 (w11_kd hw11_r0) (w11_f6 hw11_r0) cok11 (by decide) rfl fl_X11_42 d_X11_lay_16 ?_
    refine G_iload_n d_X11_lay_19 rfl 1 rfl ?_
    refine G_aaldT (r := r0 + 252 + 2 * i1) i1 (w11_k6 hw11_r0) rfl (hb c0) (w11_r6 hw11_r0 i1 (hb c0)) d_X11_lay_20 ?_
    refine G_getI 7 1 (w7_kd (hw7_r02522i1 c0)) cok7 (by decide) rfl fl_X11_249 d_X11_lay_21 ?_
    refine G_iload_n d_X11_lay_24 rfl 2 rfl ?_
    refine G_iconst d_X11_lay_25 ic_1 ?_
    refine G_callV (M' := mX7_findTaken) (R' := (Rm (d + 1))) (S := []) [.int (iv μ (r0 + 252 + 2 * i1) 1), .int l2, .int 1] 7 (w7_kd (hw7_r02522i1 c0)) cok7 rfl ok_X7_findTaken ml_X11_252 pn_X7_findTaken (ru_Rm (by decide)) (Nat.le_of_ble_eq_true rfl) d_X11_lay_26 (s_X7_findTaken (μ := μ)  (hw7_r02522i1 c0) ?_)
    show G X (Rm (d + 2)) mX11_lay 29 [(0, .ref r0), (1, .int (nI i1)), (2, .int l2), (3, .int l3)] [.int (e_X7_findTaken μ (r0 + 252 + 2 * i1) (iv μ (r0 + 252 + 2 * i1) 1) l2 1)] μ 0 0 K
    refine G_istore (L' := [(4, .int (e_X7_findTaken μ (r0 + 252 + 2 * i1) (iv μ (r0 + 252 + 2 * i1) 1) l2 1)), (0, .ref r0), (1, .int (nI i1)), (2, .int l2), (3, .int l3)]) d_X11_lay_29 (by decide) rfl ?_
    refine G_iload d_X11_lay_31 0 rfl ?_
    refine G_if_eq (tgt := 42) d_X11_lay_33 rfl (fun c1 => ?_) (fun c1 => ?_)
    ·
      refine G_aload_n d_X11_lay_42 rfl 1 rfl ?_
      refine G_getR (r := r0 + 122) 11 6 (w11_kd hw11_r0) (w11_f6 hw11_r0) cok11 (by decide) rfl fl_X11_42 d_X11_lay_43 ?_
      refine G_iload_n d_X11_lay_46 rfl 2 rfl ?_
      refine G_aaldT (r := r0 + 252 + 2 * i1) i1 (w11_k6 hw11_r0) rfl (hb_2 c0 c1) (w11_r6 hw11_r0 i1 (hb_2 c0 c1)) d_X11_lay_47 ?_
      refine G_iload_n d_X11_lay_48 rfl 3 rfl ?_
      refine G_iload_n d_X11_lay_49 rfl 4 rfl ?_
      refine G_sub (L' := []) [] rfl ?_
      refine G_callV (M' := mX7_put) (R' := (Rm (d + 1))) (S := []) [.int l2, .int l3] 7 (w7_kd (hw7_r02522i1_2 c0 c1)) cok7 rfl ok_X7_put ml_X11_256 pn_X7_put (ru_Rm (by decide)) (Nat.le_of_ble_eq_true rfl) d_X11_lay_50 ?_
      exact (hc_put c0 c1)
    ·
      refine G_bipush d_X11_lay_36 bp_m10 ?_
      refine G_iload d_X11_lay_38 0 rfl ?_
      refine G_isub d_X11_lay_40 ?_
      exact G_iret rfl rfl rfl d_X11_lay_41 (hK c0 c1)
  ·
    refine G_iconst d_X11_lay_7 ic_m1 ?_
    exact G_iret rfl rfl rfl d_X11_lay_8 (hK_2 c0)
theorem b_X10_itemsOfAll_4c {X : cX} {d : Nat} {μ : mM} {K : Option Value → mM → Prop} {r0 : Nat} {l1 : Int32} {i2 : Nat} (hw10_r0 : WF10 μ r0) (hK : (iv μ r0 2) ≤ (nI i2) → K (some (.int l1)) μ) (hb : ¬ (iv μ r0 2) ≤ (nI i2) → i2 < 4) (hw3_r0268i2 : ¬ (iv μ r0 2) ≤ (nI i2) → WF3 μ (r0 + 26 + 8 * i2)) (h : ¬ (iv μ r0 2) ≤ (nI i2) → G X (Rm d) mX10_itemsOfAll 4 [(0, .ref r0), (1, .int (l1 + (iv μ (r0 + 26 + 8 * i2) 3))), (2, .int (nI (i2 + 1)))] [] μ 0 0 K) : G X (Rm d) mX10_itemsOfAll 4 [(0, .ref r0), (1, .int l1), (2, .int (nI i2))] [] μ 0 0 K := by
  refine G_iload_n d_X10_itemsOfAll_4 rfl 2 rfl ?_
  refine G_aload_n d_X10_itemsOfAll_5 rfl 0 rfl ?_
  refine G_getI 10 2 (w10_kd hw10_r0) cok10 (by decide) rfl fl_X10_28 d_X10_itemsOfAll_6 ?_
  refine G_icmp_ge (tgt := 30) d_X10_itemsOfAll_9 rfl (fun c0 => ?_) (fun c0 => ?_)
  ·
    refine G_iload_n d_X10_itemsOfAll_30 rfl 1 rfl ?_
    exact G_iret rfl rfl rfl d_X10_itemsOfAll_31 (hK c0)
  ·
    refine G_iload_n d_X10_itemsOfAll_12 rfl 1 rfl ?_
    refine G_aload_n d_X10_itemsOfAll_13 rfl 0 rfl ?_
    refine G_getR (r := r0 + 25) 10 1 (w10_kd hw10_r0) (w10_f1 hw10_r0) cok10 (by decide) rfl fl_X10_20 d_X10_itemsOfAll_14 ?_
    refine G_iload_n d_X10_itemsOfAll_17 rfl 2 rfl ?_
    refine G_aaldF (r := r0 + 26 + 8 * i2) i2 (w10_k1 hw10_r0) rfl (hb c0) (w10_r1 hw10_r0 i2 (hb c0)) d_X10_itemsOfAll_18 ?_
    refine G_getI 3 3 (w3_kd (hw3_r0268i2 c0)) cok3 (by decide) rfl fl_X10_32 d_X10_itemsOfAll_19 ?_
    refine G_iadd d_X10_itemsOfAll_22 ?_
    refine G_istore_n (L' := [(1, .int (l1 + (iv μ (r0 + 26 + 8 * i2) 3))), (0, .ref r0), (2, .int (nI i2))]) d_X10_itemsOfAll_23 rfl (by decide) rfl ?_
    refine G_iinc (L' := [(2, .int (nI (i2 + 1))), (1, .int (l1 + (iv μ (r0 + 26 + 8 * i2) 3))), (0, .ref r0)]) d_X10_itemsOfAll_24 2 rfl (inc1 i2) (by decide) rfl ?_
    refine G_goto (tgt := 4) d_X10_itemsOfAll_27 rfl ?_
    refine G_sub (L' := [(0, .ref r0), (1, .int (l1 + (iv μ (r0 + 26 + 8 * i2) 3))), (2, .int (nI (i2 + 1)))]) [2, 1, 0] rfl ?_
    exact (h c0)
