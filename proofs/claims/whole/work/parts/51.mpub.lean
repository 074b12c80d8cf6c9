theorem e_inM {μ : mM} {i n : Nat} {z : Int32} (hi : i < 2 ^ 32) (hz : z = nI n) (hn : n < 2 ^ 30) : e_X12_in μ (nI i).toInt64 0 ((z - 1).toInt64) = 0 ↔ ¬ i < n := by
  rw [e_in0, i64, i64, nI_u hi, hz]
  have e0 : (0 : Int64).toInt = 0 := by decide
  have e2 : (nI n - 1).toInt = (n : Int) - 1 := pk_sub_toInt (b := 1) (by omega) (by decide)
  rw [e0, e2]
  split <;> omega
theorem e_inT {μ : mM} {i n : Nat} {z : Int32} (hi : i < 2 ^ 32) (hz : z = nI n) (hn : n < 2 ^ 31) : e_X12_in μ (nI i).toInt64 0 (z.toInt64) = 0 ↔ ¬ i ≤ n := by
  rw [e_in0, i64, i64, nI_u hi, hz]
  have e0 : (0 : Int64).toInt = 0 := by decide
  rw [e0, nI_toInt hn]
  split <;> omega
theorem refG (z : Int32) : (z >>> ((16 : Int32) &&& 31)) &&& 32767 = nI (rGn z) := by
  rw [pk_and _ 15 (by decide)]
  have h := pk_shr z ((16 : Int32) &&& 31) 16 (by decide)
  have e1 : (z >>> ((16 : Int32) &&& 31)).toInt = ((z >>> ((16 : Int32) &&& 31)).toBitVec).toInt := rfl
  have e2 : z.toInt = z.toBitVec.toInt := rfl
  rw [e1, e2, BitVec.toInt_eq_toNat_cond, BitVec.toInt_eq_toNat_cond, Int.shiftRight_eq_div_pow] at h
  have l1 := (z >>> ((16 : Int32) &&& 31)).toBitVec.isLt
  have l2 := z.toBitVec.isLt
  unfold rGn
  congr 1
  generalize (z >>> ((16 : Int32) &&& 31)).toBitVec.toNat = a at *
  generalize z.toBitVec.toNat = b at *
  have p16 : ((2 ^ 16 : Nat) : Int) = 65536 := by decide
  rw [p16] at h
  show a % 2 ^ 15 = b / 2 ^ 16 % 2 ^ 15
  split at h <;> split at h <;> omega
section P51
variable {X : cX} {d : Nat} {μ : mM} {K : Option Value → mM → Prop} {f : Nat → Nat → Int32} {y : Nat} {σ : aS}
theorem MI.np {g : Nat → Nat → Int32} {q : Nat → Nat} (h : MI f y σ) (hf : MF2 f g y) (hs : Pg0 g y q) : Fr f g y 17 ∧ MI g y (us σ 0 q) := ⟨hf.out, h.pg hf.toI hs⟩
theorem MI.ns {g : Nat → Nat → Int32} (h : MI f y σ) (hf : MF2 f g y) (hs : Pg0 g y (σ 0)) : Fr f g y 17 ∧ MI g y σ := ⟨hf.out, h.same hf.toI hs⟩
theorem MF2.sc {g : Nat → Nat → Int32} (h : ∀ z, ¬ (y + 7 ≤ z ∧ z ≤ y + 11) → z ≠ y + 13 → ∀ j, g z j = f z j) : MF2 f g y := ⟨fun z _ _ a b j => h z a b j, fun k _ _ => h _ (by omega) (by omega) k, fun k _ => h _ (by omega) (by omega) k⟩
theorem M_rule {w : Nat} (hw : WF12 μ y) (hM : MI f y σ) (hO : OKs σ) (hw2 : w < 2 ^ 32) (hK : K (some (.int (R_rule σ w))) (sI μ f)) : Ct X (Rm (d + 2)) mX12_rule [.ref y, .int (nI w)] (sI μ f) K := by
  have hp := hO.1
  have b01 : ∀ k, k < 6 → σ 0 (0 + k) ≤ 2 := fun k hk => by rw [Nat.zero_add]; have := hp.2.1 k hk; omega
  have b6 : ∀ k, k < 18 → σ 0 (6 + k) ≤ 2 := fun k hk => okP_all hp (by omega) (by omega)
  have b24 : ∀ k, k < 36 → σ 0 (24 + k) ≤ 2 := fun k hk => okP_all hp (by omega) (by omega)
  refine Ct_of rfl (Nat.le_of_ble_eq_true rfl) (b_X12_rule_0 (hw12_r0 := hw) (hK := fun q => ?_) (hK_2 := fun q => ?_) (hc_manyOf := fun q => ?_) (hc_manyOf_2 := fun q => ?_) (hc_manyOf_3 := fun q => ?_) (hc_manyOf_4 := fun q => ?_) (hc_manyOf_5 := fun q => ?_) (hc_isHeap := fun q => ?_) (hK_3 := fun q => ?_))
  · have e := eqU (n := 0) hw2 (by decide) q
    subst e
    have e1 : e_X12_nodes (sI μ f) y = nI (σ 0 60) := hM.1 60 (by decide)
    rw [e1]; exact hK
  · have e := eqU (n := 1) hw2 (by decide) q
    subst e
    rw [iv_sI, hM.2.2.1.1]; exact hK
  · have e := eqU (n := 2) hw2 (by decide) q
    subst e
    exact m_many (lo := 0) (n := 6) (t := 1) hw hM.1 b01 (by decide) (by decide) (b_X12_rule_66 hK)
  · have e := eqU (n := 3) hw2 (by decide) q
    subst e
    exact m_many (lo := 6) (n := 18) (t := 1) hw hM.1 b6 (by decide) (by decide) (b_X12_rule_76 hK)
  · have e := eqU (n := 4) hw2 (by decide) q
    subst e
    exact m_many (lo := 24) (n := 36) (t := 1) hw hM.1 b24 (by decide) (by decide) (b_X12_rule_86 hK)
  · have e := eqU (n := 5) hw2 (by decide) q
    subst e
    exact m_many (lo := 6) (n := 18) (t := 2) hw hM.1 b6 (by decide) (by decide) (b_X12_rule_96 hK)
  · have e := eqU (n := 6) hw2 (by decide) q
    subst e
    exact m_many (lo := 24) (n := 36) (t := 2) hw hM.1 b24 (by decide) (by decide) (b_X12_rule_106 hK)
  · have e := eqU (n := 7) hw2 (by decide) q
    subst e
    have hl := hb_le (σ 0) 9
    have hK : K (some (.int (nI (hb (σ 0) 9)))) (sI μ f) := hK
    refine m_isHeap hw hM.1 hp (b_X12_rule_111 (hK := fun z => ?_) (hK_2 := fun z => ?_))
    · rw [z] at hK; exact hK
    · rw [nI_z (by omega)] at z
      rw [show hb (σ 0) 9 = 1 by omega] at hK
      exact hK
  · have e := dfl (n := 7) hw2 q
    rw [R_rule_d (by omega)] at hK
    exact hK
theorem M_node {i w : Nat} (hw : WF12 μ y) (hM : MI f y σ) (hO : OKs σ) (hi : i < 2 ^ 32) (hw2 : w < 2 ^ 32) (hK : ∀ f', Fr f f' y 17 → MI f' y σ → K (some (.int (R_node σ i w))) (sI μ f')) : Ct X (Rm (d + 2)) mX12_node [.ref y, .int (nI i), .int (nI w)] (sI μ f) K := by
  have hp := hO.1
  have h6 := hp.1
  have nd := e_isNode (μ := μ) (p := σ 0) (hM.1 60 (by decide)) h6 hi
  have ew := e_inN (μ := sI μ f) (n := 6) (c := 6) hw2 (by decide) (by decide)
  have BAD : ¬ (i < σ 0 60 ∧ w ≤ 6) → K (some (.int (-1))) (sI μ f) := fun q => by
    have := hK f (Fr.rf _ _ _) hM
    unfold R_node at this
    rw [if_neg q] at this
    exact this
  refine Ct_of rfl (Nat.le_of_ble_eq_true rfl) (b_X12_node_0 (hw12_r0 := hw) (hs := e_in01 _ _ _ _) (hK := fun q => BAD (fun z => (nd.mp q) z.1)) (hc_routesAll := fun q1 q2 => ?_) (hK_2 := fun _ q => BAD (fun z => (ew.mp q) z.2)))
  have z1 : i < σ 0 60 := Decidable.byContradiction fun z => q1 (nd.mpr z)
  have z2 : w ≤ 6 := Decidable.byContradiction fun z => q2 (ew.mpr z)
  refine m_routes hw hM.1 hp (fun g r1 r2 => ?_)
  have mf : MF2 f g y := MF2.sc (fun z a b j => r1 z (by omega) j)
  have pg : Pg0 g y (σ 0) := hM.1.fr (fun k _ => r1 _ (by omega) k)
  have r := hM.ns mf pg
  have kk := hK g r.1 r.2
  unfold R_node at kk
  rw [if_pos ⟨z1, z2⟩] at kk
  have wz : (nI w = 0) ↔ w = 0 := nI_eqU (b := 0) hw2 (by decide)
  have w4 : ((4 : Int32) ≤ nI w) ↔ 4 ≤ w := nI_leI (a := 4) (by decide) (by omega)
  refine b_X12_node_26 (j0 := w - 1) (hw12_r0 := hw) (hc_reachOf := fun q3 q4 => ?_) (hi_j0 := fun q3 _ => ?_) (hs := fun _ q4 => ?_) (h := fun q3 q4 => b_X12_node_63 ?_) (hb := fun _ => by omega) (h_2 := fun q3 => b_X12_node_63 ?_)
  · rw [wz] at q3; rw [w4] at q4
    rw [show nI w - 4 = nI (w - 4) from pk_sub (b := 4) q4]
    refine m_reach hw pg hp r2 (by omega) (by omega) (b_X12_node_63 ?_)
    rw [if_neg q3, if_neg (by omega)] at kk
    exact kk
  · rw [wz] at q3
    exact pk_sub (b := 1) (by omega)
  · rw [w4] at q4; omega
  · rw [wz] at q3; rw [w4] at q4
    have e : e_X12_atOf (sI μ g) y (w - 1) i = nI (σ 0 (6 + 6 * (w - 1) + i)) := pg _ (by omega)
    rw [if_neg q3, if_pos (by omega)] at kk
    rw [e]; exact kk
  · rw [wz] at q3
    rw [if_pos q3] at kk
    rw [iv_sI, pg i (by omega)]; exact kk
theorem M_pair {i j w : Nat} (hw : WF12 μ y) (hM : MI f y σ) (hO : OKs σ) (hi : i < 2 ^ 32) (hj : j < 2 ^ 32) (hw2 : w < 2 ^ 32) (hK : ∀ f', Fr f f' y 17 → MI f' y σ → K (some (.int (R_pair σ i j w))) (sI μ f')) : Ct X (Rm (d + 2)) mX12_pair [.ref y, .int (nI i), .int (nI j), .int (nI w)] (sI μ f) K := by
  have hp := hO.1
  have h6 := hp.1
  have nd := e_isNode (μ := μ) (p := σ 0) (hM.1 60 (by decide)) h6 hi
  have nd2 := e_isNode (μ := μ) (p := σ 0) (hM.1 60 (by decide)) h6 hj
  have ew := e_inN (μ := sI μ f) (n := 2) (c := 2) hw2 (by decide) (by decide)
  have BAD : ¬ (i < σ 0 60 ∧ j < σ 0 60 ∧ w ≤ 2) → K (some (.int (-1))) (sI μ f) := fun q => by
    have := hK f (Fr.rf _ _ _) hM
    unfold R_pair at this
    rw [if_neg q] at this
    exact this
  refine Ct_of rfl (Nat.le_of_ble_eq_true rfl) (b_X12_pair_0 (hw12_r0 := hw) (hs := e_in01 _ _ _ _) (hK := fun q => BAD (fun z => (nd.mp q) z.1)) (hs_2 := fun _ => e_in01 _ _ _ _) (hK_2 := fun _ q => BAD (fun z => (nd2.mp q) z.2.1)) (hc_routesAll := fun q1 q2 q3 => ?_) (hK_3 := fun _ _ q => BAD (fun z => (ew.mp q) z.2.2)))
  have z1 : i < σ 0 60 := Decidable.byContradiction fun z => q1 (nd.mpr z)
  have z2 : j < σ 0 60 := Decidable.byContradiction fun z => q2 (nd2.mpr z)
  have z3 : w ≤ 2 := Decidable.byContradiction fun z => q3 (ew.mpr z)
  refine m_routes hw hM.1 hp (fun g r1 r2 => ?_)
  have mf : MF2 f g y := MF2.sc (fun z a b j => r1 z (by omega) j)
  have pg : Pg0 g y (σ 0) := hM.1.fr (fun k _ => r1 _ (by omega) k)
  have r := hM.ns mf pg
  have kk := hK g r.1 r.2
  unfold R_pair at kk
  rw [if_pos ⟨z1, z2, z3⟩] at kk
  have wz : (nI w = 0) ↔ w = 0 := nI_eqU (b := 0) hw2 (by decide)
  have w1 : (nI w = (1 : Int32)) ↔ w = 1 := nI_eqU (b := 1) hw2 (by decide)
  refine b_X12_pair_34 (hw12_r0 := hw) (hs := fun _ _ _ => by omega) (hK := fun q4 q5 => ?_) (hb := fun _ _ => by omega) (hK_2 := fun q4 q5 => ?_) (hs_2 := fun _ => by omega) (hK_3 := fun q4 => ?_)
  · rw [wz] at q4; rw [w1] at q5
    rw [if_neg q4, if_neg q5] at kk
    have e : e_X12_sameOf (sI μ g) y i (nI j) = nI (samP (σ 0) i j) := by
      unfold e_X12_sameOf samP
      have e1 : (nI i = nI j) ↔ i = j := nI_eqU hi hj
      by_cases c : i = j
      · rw [if_pos (e1.mpr c), if_pos c, iv_sI, pg i (by omega)]
        have e2 : (nI (σ 0 i) = (1 : Int32)) ↔ σ 0 i = 1 := nI_eq (b := 1) (by have := hp.2.1 i (by omega); omega) (by decide)
        by_cases c2 : σ 0 i = 1
        · rw [if_pos (e2.mpr c2), if_pos c2]; rfl
        · rw [if_neg (fun q => c2 (e2.mp q)), if_neg c2]; rfl
      · rw [if_neg (fun q => c (e1.mp q)), if_neg c]; rfl
    rw [e]; exact kk
  · rw [wz] at q4; rw [w1] at q5
    rw [if_neg q4, if_pos q5] at kk
    rw [iv_sI, r2 _ (by omega)]; exact kk
  · rw [wz] at q4
    rw [if_pos q4] at kk
    have e : e_X12_nextOf (sI μ g) y i j = nI (σ 0 (24 + 6 * i + j)) := pg _ (by omega)
    rw [e]; exact kk
theorem M_held {v : Nat} (hw : WF12 μ y) (hM : MI f y σ) (hO : OKs σ) (hv : v < 2 ^ 32) (hK : K (some (.int (R_held σ v))) (sI μ f)) : Ct X (Rm (d + 2)) mX12_held [.ref y, .int (nI v)] (sI μ f) K := by
  have e := m_isV (μ := sI μ f) hv
  unfold R_held at hK
  refine Ct_of rfl (Nat.le_of_ble_eq_true rfl) (b_X12_held_0 (hs := e_in01 _ _ _ _) (hK := fun q => ?_) (hw12_r0 := hw) (hc_heldOf := fun q => ?_))
  · rw [if_neg (e.mp q)] at hK; exact hK
  · have z : v < 3 := Decidable.byContradiction fun z => q (e.mpr z)
    rw [if_pos z] at hK
    exact m_held hw hM.1 hO.1 z (b_X12_held_12 hK)
theorem M_ask {k : Nat} (hw : WF12 μ y) (hM : MI f y σ) (hO : OKs σ) (hk : k < 2 ^ 32) (hK : ∀ f', Fr f f' y 17 → MI f' y σ → K (some (.int (R_ask σ k))) (sI μ f')) : Ct X (Rm (d + 6)) mX12_ask [.ref y, .int (nI k)] (sI μ f) K := by
  have hp := hO.1
  have hfm := hO.2.2.1
  have h41 := hfm.1
  have e := e_inM (μ := sI μ f) (n := σ 5 0) (z := iv (sI μ f) y 2) hk hM.2.2.1.1 (by omega)
  refine Ct_of rfl (Nat.le_of_ble_eq_true rfl) (b_X12_ask_0 (hw12_r0 := hw) (hs := e_in01 _ _ _ _) (hc_routesAll := fun q => ?_) (hK := fun q => ?_))
  · have z : k < σ 5 0 := Decidable.byContradiction fun z => q (e.mpr z)
    refine m_routes hw hM.1 hp (fun g r1 r2 => ?_)
    have pg : Pg0 g y (σ 0) := hM.1.fr (fun k _ => r1 _ (by omega) k)
    rw [show (48 : Int32) * nI k = nI (48 * k) from pk_mul 48 k]
    refine m_ask19 (p := σ 0) (F := σ 4) (o := 48 * k) hw hp ⟨pg, r2, fun k hk => by rw [r1 _ (by omega)]; exact hM.2.2.1.2 k hk⟩ (hfm.2 k z).1 (by omega) (fun g2 s1 => ?_)
    have mf : MF2 f g2 y := MF2.sc (fun z a b j => (s1 z (by omega) (by omega) j).trans (r1 z (by omega) j))
    have r := hM.ns mf (pg.fr (fun k _ => s1 _ (by omega) (by omega) k))
    have kk := hK g2 r.1 r.2
    unfold R_ask at kk
    rw [if_pos z] at kk
    exact kk
  · have := hK f (Fr.rf _ _ _) hM
    unfold R_ask at this
    rw [if_neg (e.mp q)] at this
    exact this
theorem M_formula {k w : Nat} (hw : WF12 μ y) (hM : MI f y σ) (hO : OKs σ) (hk : k < 2 ^ 32) (hw2 : w < 2 ^ 32) (hK : K (some (.int (R_formula σ k w))) (sI μ f)) : Ct X (Rm (d + 2)) mX12_formula [.ref y, .int (nI k), .int (nI w)] (sI μ f) K := by
  have hfm := hO.2.2.1
  have h41 := hfm.1
  have e := e_inM (μ := sI μ f) (n := σ 5 0) (z := iv (sI μ f) y 2) hk hM.2.2.1.1 (by omega)
  have ew := e_inN (μ := sI μ f) (n := 3) (c := 3) hw2 (by decide) (by decide)
  unfold R_formula at hK
  have BAD : ¬ (k < σ 5 0 ∧ w ≤ 3) → K (some (.int (-1))) (sI μ f) := fun q => by rw [if_neg q] at hK; exact hK
  have zk : ¬ e_X12_isFormula (sI μ f) y (nI k) = 0 → k < σ 5 0 := fun q => Decidable.byContradiction fun z => q (e.mpr z)
  have zw : ¬ e_X12_in (sI μ f) ((nI w).toInt64) 0 3 = 0 → w ≤ 3 := fun q => Decidable.byContradiction fun z => q (ew.mpr z)
  refine Ct_of rfl (Nat.le_of_ble_eq_true rfl) (b_X12_formula_0 (hw12_r0 := hw) (hs := e_in01 _ _ _ _) (hK := fun q => BAD (fun z => (e.mp q) z.1)) (hK_2 := fun _ q => BAD (fun z => (ew.mp q) z.2)) (hb := fun q1 q2 => by have := zk q1; have := zw q2; omega) (hK_3 := fun q1 q2 => ?_))
  have z1 := zk q1
  have z2 := zw q2
  rw [if_pos ⟨z1, z2⟩] at hK
  rw [iv_sI, hM.2.2.1.2 _ (by omega)]; exact hK
theorem M_add {m : Nat} (hw : WF12 μ y) (hM : MI f y σ) (hO : OKs σ) (hm : m < 2 ^ 32) (hK : ∀ f', Fr f f' y 17 → MI f' y (N_add σ m) → K (some (.int (R_add σ m))) (sI μ f')) : Ct X (Rm (d + 2)) mX12_add [.ref y, .int (nI m)] (sI μ f) K := by
  have hp := hO.1
  have h6 := hp.1
  have e1 := isFl (μ := sI μ f) hm
  have en : e_X12_nodes (sI μ f) y = nI (σ 0 60) := hM.1 60 (by decide)
  have e6 : (e_X12_nodes (sI μ f) y = (6 : Int32)) ↔ σ 0 60 = 6 := by rw [en]; exact nI_eq (b := 6) (by omega) (by decide)
  have BAD : ¬ (m ≤ 1 ∧ σ 0 60 < 6) → K (some (.int (R_add σ m))) (sI μ f) := fun q => by
    have k := hK f (Fr.rf _ _ _)
    unfold N_add at k
    rw [if_neg q] at k
    exact k hM
  refine Ct_of rfl (Nat.le_of_ble_eq_true rfl) (b_X12_add_0 (hs := e_in01 _ _ _ _) (hw12_r0 := hw) (hc_comes := fun q1 q2 => ?_) (hK := fun q1 q2 => ?_) (hK_2 := fun q => ?_))
  · have z1 : m ≤ 1 := Decidable.byContradiction fun z => q1 (e1.mpr z)
    rw [e6] at q2
    have z2 : σ 0 60 < 6 := by omega
    refine m_comes hw hM.1 hp z2 (fun g r1 r2 => b_X12_add_26 hw ?_)
    have r := hM.np r1.to2 r2
    have k := hK g r.1
    unfold N_add R_add at k
    rw [if_pos ⟨z1, z2⟩, if_pos z1, if_pos z2] at k
    have e : e_X12_nodes (sI μ g) y = nI (σ 0 60 + 1) := (r2 60 (by decide)).trans (by rw [app_60])
    rw [e]; exact k r.2
  · have z1 : m ≤ 1 := Decidable.byContradiction fun z => q1 (e1.mpr z)
    rw [e6] at q2
    have := BAD (fun z => by omega)
    unfold R_add at this
    rw [if_pos z1, if_neg (by omega)] at this
    exact this
  · have := BAD (fun z => (e1.mp q) z.1)
    unfold R_add at this
    rw [if_neg (e1.mp q)] at this
    exact this
theorem M_lose {i : Nat} (hw : WF12 μ y) (hM : MI f y σ) (hO : OKs σ) (hi : i < 2 ^ 32) (hK : ∀ f', Fr f f' y 17 → MI f' y (N_lose σ i) → K (some (.int (R_lose σ i))) (sI μ f')) : Ct X (Rm (d + 2)) mX12_lose [.ref y, .int (nI i)] (sI μ f) K := by
  have hp := hO.1
  have nd := e_isNode (μ := μ) (p := σ 0) (hM.1 60 (by decide)) hp.1 hi
  by_cases z : i < σ 0 60
  · refine m_lose hw hM.1 hp z (fun g r1 r2 => ?_)
    have r := hM.np r1.to2 r2
    have k := hK g r.1
    unfold N_lose R_lose at k
    rw [if_pos z, if_pos z] at k
    exact k r.2
  · refine Ct_of rfl (Nat.le_of_ble_eq_true rfl) (b_X12_lose_0 (hw12_r0 := hw) (hs := e_in01 _ _ _ _) (hc_movesDown := fun q => absurd (nd.mpr z) q) (hK := fun _ => ?_))
    have k := hK f (Fr.rf _ _ _)
    unfold N_lose R_lose at k
    rw [if_neg z, if_neg z] at k
    exact k hM
/-- becomes, by what is told of it -/
theorem m_becomes {c : Bool} {k n b : Nat} {l : Int32} (hw : WF12 μ y) (hM : MI f y σ) (hb : b = if c = true then 1 else 0) (hk : c = true → l = nI k ∧ k < 60) (hK : ∀ f', Fr f f' y 17 → MI f' y (N_bec σ c k n) → K (some (.int (R_bec σ c k))) (sI μ f')) : Ct X (Rm d) mX12_becomes [.ref y, .int (nI b), .int l, .int (nI n)] (sI μ f) K := by
  obtain ⟨j, hj, el⟩ := nI_surj l
  subst el
  unfold N_bec R_bec at hK
  by_cases q : c = true
  · rw [if_pos q] at hb
    obtain ⟨k1, k2⟩ := hk q
    have e := (nI_eqU hj (by omega)).mp k1
    subst e hb
    rw [if_pos q, if_pos q] at hK
    refine Ct_of rfl (Nat.le_of_ble_eq_true rfl) (b_X12_becomes_0 (hw12_r0 := hw) (hb := fun _ => by omega) (hK := fun _ => ?_) (hK_2 := fun z => absurd z (by decide)))
    rw [wi_sI, iv_sI, hM.1 j (by omega)]
    have r := hM.np (g := u2 f (y + 1) j (nI n)) ((MF2.rf f y).up (by omega)) (hM.1.u1)
    exact hK _ r.1 r.2
  · rw [if_neg q] at hb
    subst hb
    rw [if_neg q, if_neg q] at hK
    exact Ct_of rfl (Nat.le_of_ble_eq_true rfl) (b_X12_becomes_0 (hw12_r0 := hw) (hb := fun z => absurd rfl z) (hK := fun z => absurd rfl z) (hK_2 := fun _ => hK f (Fr.rf _ _ _) hM))
theorem M_many {i on : Nat} (hw : WF12 μ y) (hM : MI f y σ) (hO : OKs σ) (hi : i < 2 ^ 32) (hon : on < 2 ^ 32) (hK : ∀ f', Fr f f' y 17 → MI f' y (N_bec σ (k_many σ i on) i on) → K (some (.int (R_bec σ (k_many σ i on) i))) (sI μ f')) : Ct X (Rm (d + 2)) mX12_many [.ref y, .int (nI i), .int (nI on)] (sI μ f) K := by
  have hp := hO.1
  have h6 := hp.1
  have nd := e_isNode (μ := μ) (p := σ 0) (hM.1 60 (by decide)) h6 hi
  have e1 := isFl (μ := sI μ f) hon
  have hkb : k_many σ i on = true ↔ i < σ 0 60 ∧ on ≤ 1 := by unfold k_many; rw [Bool.and_eq_true, decide_eq_true_iff, decide_eq_true_iff]
  have A : ∀ b, b = (if k_many σ i on = true then 1 else 0) → G X (Rm (d + 2)) mX12_many 21 [(1, .int (nI i)), (2, .int (nI on))] [.int (nI b), .ref y] (sI μ f) 0 0 K := fun b hb =>
    b_X12_many_21 hw (m_becomes hw hM hb (fun q => ⟨rfl, by have := (hkb.mp q).1; omega⟩) (fun g r1 r2 => b_X12_many_26 (hK g r1 r2)))
  refine Ct_of rfl (Nat.le_of_ble_eq_true rfl) (b_X12_many_0 (hw12_r0 := hw) (hs := e_in01 _ _ _ _) (h := fun q => b_X12_many_20 (A 0 (by rw [if_neg (fun z => (nd.mp q) (hkb.mp z).1)]))) (hs_2 := fun _ => e_in01 _ _ _ _) (h_2 := fun _ q => b_X12_many_20 (A 0 (by rw [if_neg (fun z => (e1.mp q) (hkb.mp z).2)]))) (h_3 := fun q1 q2 => A 1 (by rw [if_pos (hkb.mpr ⟨Decidable.byContradiction fun z => q1 (nd.mpr z), Decidable.byContradiction fun z => q2 (e1.mpr z)⟩)])))
theorem M_place {v i tr : Nat} (hw : WF12 μ y) (hM : MI f y σ) (hO : OKs σ) (hv : v < 2 ^ 32) (hi : i < 2 ^ 32) (htr : tr < 2 ^ 32) (hK : ∀ f', Fr f f' y 17 → MI f' y (N_bec σ (k_place σ v i tr) (6 + 6 * v + i) tr) → K (some (.int (R_bec σ (k_place σ v i tr) (6 + 6 * v + i)))) (sI μ f')) : Ct X (Rm (d + 2)) mX12_place [.ref y, .int (nI v), .int (nI i), .int (nI tr)] (sI μ f) K := by
  have hp := hO.1
  have h6 := hp.1
  have nd := e_isNode (μ := μ) (p := σ 0) (hM.1 60 (by decide)) h6 hi
  have ev := m_isV (μ := sI μ f) hv
  have e1 := e_inN (μ := sI μ f) (n := 2) (c := 2) htr (by decide) (by decide)
  have hkb : k_place σ v i tr = true ↔ v < 3 ∧ i < σ 0 60 ∧ tr ≤ 2 := by unfold k_place; rw [Bool.and_eq_true, Bool.and_eq_true, decide_eq_true_iff, decide_eq_true_iff, decide_eq_true_iff]
  have A : ∀ b, b = (if k_place σ v i tr = true then 1 else 0) → G X (Rm (d + 2)) mX12_place 33 [(1, .int (nI v)), (2, .int (nI i)), (3, .int (nI tr))] [.int (nI b), .ref y] (sI μ f) 0 0 K := fun b hb =>
    b_X12_place_33 hw (m_becomes (k := 6 + 6 * v + i) hw hM hb (fun q => ⟨ix66, by have := (hkb.mp q).1; have := (hkb.mp q).2.1; omega⟩) (fun g r1 r2 => b_X12_place_46 (hK g r1 r2)))
  refine Ct_of rfl (Nat.le_of_ble_eq_true rfl) (b_X12_place_0 (hs := e_in01 _ _ _ _) (h := fun q => b_X12_place_32 (A 0 (by rw [if_neg (fun z => (ev.mp q) (hkb.mp z).1)]))) (hw12_r0 := hw) (hs_2 := fun _ => e_in01 _ _ _ _) (h_2 := fun _ q => b_X12_place_32 (A 0 (by rw [if_neg (fun z => (nd.mp q) (hkb.mp z).2.1)]))) (h_3 := fun _ _ q => b_X12_place_32 (A 0 (by rw [if_neg (fun z => (e1.mp q) (hkb.mp z).2.2)]))) (h_4 := fun q1 q2 q3 => A 1 (by rw [if_pos (hkb.mpr ⟨Decidable.byContradiction fun z => q1 (ev.mpr z), Decidable.byContradiction fun z => q2 (nd.mpr z), Decidable.byContradiction fun z => q3 (e1.mpr z)⟩)])))
theorem M_lead {i j tr : Nat} (hw : WF12 μ y) (hM : MI f y σ) (hO : OKs σ) (hi : i < 2 ^ 32) (hj : j < 2 ^ 32) (htr : tr < 2 ^ 32) (hK : ∀ f', Fr f f' y 17 → MI f' y (N_bec σ (k_lead σ i j tr) (24 + 6 * i + j) tr) → K (some (.int (R_bec σ (k_lead σ i j tr) (24 + 6 * i + j)))) (sI μ f')) : Ct X (Rm (d + 2)) mX12_lead [.ref y, .int (nI i), .int (nI j), .int (nI tr)] (sI μ f) K := by
  have hp := hO.1
  have h6 := hp.1
  have nd := e_isNode (μ := μ) (p := σ 0) (hM.1 60 (by decide)) h6 hi
  have nd2 := e_isNode (μ := μ) (p := σ 0) (hM.1 60 (by decide)) h6 hj
  have e1 := e_inN (μ := sI μ f) (n := 2) (c := 2) htr (by decide) (by decide)
  have hkb : k_lead σ i j tr = true ↔ i < σ 0 60 ∧ j < σ 0 60 ∧ tr ≤ 2 := by unfold k_lead; rw [Bool.and_eq_true, Bool.and_eq_true, decide_eq_true_iff, decide_eq_true_iff, decide_eq_true_iff]
  have A : ∀ b, b = (if k_lead σ i j tr = true then 1 else 0) → G X (Rm (d + 2)) mX12_lead 34 [(1, .int (nI i)), (2, .int (nI j)), (3, .int (nI tr))] [.int (nI b), .ref y] (sI μ f) 0 0 K := fun b hb =>
    b_X12_lead_34 hw (m_becomes (k := 24 + 6 * i + j) hw hM hb (fun q => ⟨ix24, by have := (hkb.mp q).1; have := (hkb.mp q).2.1; omega⟩) (fun g r1 r2 => b_X12_lead_47 (hK g r1 r2)))
  refine Ct_of rfl (Nat.le_of_ble_eq_true rfl) (b_X12_lead_0 (hw12_r0 := hw) (hs := e_in01 _ _ _ _) (h := fun q => b_X12_lead_33 (A 0 (by rw [if_neg (fun z => (nd.mp q) (hkb.mp z).1)]))) (hs_2 := fun _ => e_in01 _ _ _ _) (h_2 := fun _ q => b_X12_lead_33 (A 0 (by rw [if_neg (fun z => (nd2.mp q) (hkb.mp z).2.1)]))) (h_3 := fun _ _ q => b_X12_lead_33 (A 0 (by rw [if_neg (fun z => (e1.mp q) (hkb.mp z).2.2)]))) (h_4 := fun q1 q2 q3 => A 1 (by rw [if_pos (hkb.mpr ⟨Decidable.byContradiction fun z => q1 (nd.mpr z), Decidable.byContradiction fun z => q2 (nd2.mpr z), Decidable.byContradiction fun z => q3 (e1.mpr z)⟩)])))
theorem M_deed {k v w : Nat} (hw : WF12 μ y) (hM : MI f y σ) (hO : OKs σ) (hk : k < 2 ^ 32) (hv : v < 2 ^ 32) (hw2 : w < 2 ^ 32) (hK : ∀ f', Fr f f' y 17 → MI f' y (N_deed σ k v w) → K (some (.int (R_deed σ k v w))) (sI μ f')) : Ct X (Rm (d + 3)) mX12_deed [.ref y, .int (nI k), .int (nI v), .int (nI w)] (sI μ f) K := by
  refine Ct_of rfl (Nat.le_of_ble_eq_true rfl) (b_X12_deed_0 hw (m_does hw hM.1 hO.1 hk hv hw2 (fun g r1 r2 => b_X12_deed_7 ?_)))
  have r := hM.np r1.to2 r2
  exact hK g r.1 r.2
theorem M_fold {md : Nat} (hw : WF12 μ y) (hM : MI f y σ) (hO : OKs σ) (hmd : md < 2 ^ 32) (hK : ∀ f', Fr f f' y 17 → MI f' y (N_fold σ md) → K (some (.int (R_fold σ md))) (sI μ f')) : Ct X (Rm (d + 3)) mX12_fold [.ref y, .int (nI md)] (sI μ f) K := by
  have e1 := isFl (μ := sI μ f) hmd
  unfold N_fold R_fold at hK
  by_cases z : md ≤ 1
  · rw [if_pos z, if_pos z] at hK
    refine m_fold hw hM.1 hO.1 z (fun g r1 r2 => ?_)
    have r := hM.np r1 r2
    exact hK g r.1 r.2
  · rw [if_neg z, if_neg z] at hK
    exact Ct_of rfl (Nat.le_of_ble_eq_true rfl) (b_X12_fold_0 (hs := e_in01 _ _ _ _) (hw12_r0 := hw) (hc_routesAll := fun q => absurd (e1.mpr z) q) (hK := fun _ => hK f (Fr.rf _ _ _) hM))
theorem M_sharpen (hw : WF12 μ y) (hM : MI f y σ) (hO : OKs σ) (hK : ∀ f', Fr f f' y 17 → MI f' y (N_sharpen σ) → K (some (.int (R_sharpen σ))) (sI μ f')) : Ct X (Rm (d + 3)) mX12_sharpen [.ref y] (sI μ f) K := by
  refine m_sharpen hw hM.1 hO.1 (fun g r1 r2 => ?_)
  have r := hM.np r1 r2
  exact hK g r.1 r.2
theorem M_ways {v : Nat} (hw : WF12 μ y) (hM : MI f y σ) (hO : OKs σ) (hv : v < 2 ^ 32) (hK : K (some (.int (R_ways σ v))) (sI μ f)) : Ct X (Rm (d + 3)) mX12_ways [.ref y, .int (nI v)] (sI μ f) K := by
  have ev := m_isV (μ := sI μ f) hv
  unfold R_ways at hK
  by_cases z : v < 3
  · rw [if_pos z] at hK
    exact m_ways hw hM.1 hO.1 z hK
  · rw [if_neg z] at hK
    exact Ct_of rfl (Nat.le_of_ble_eq_true rfl) (b_X12_ways_0 (hs := e_in01 _ _ _ _) (h := fun q => absurd (ev.mpr z) q) (hK := fun _ => hK))
theorem M_split {v k : Nat} (hw : WF12 μ y) (hM : MI f y σ) (hO : OKs σ) (hv : v < 2 ^ 32) (hk : k < 2 ^ 32) (hK : ∀ f', Fr f f' y 17 → MI f' y (N_split σ v k) → K (some (.int (R_split σ v k))) (sI μ f')) : Ct X (Rm (d + 3)) mX12_split [.ref y, .int (nI v), .int (nI k)] (sI μ f) K := by
  have ev := m_isV (μ := sI μ f) hv
  unfold R_split N_split at hK
  by_cases z : v < 3
  · rw [if_pos z, if_pos z] at hK
    refine m_split hw hM.1 hO.1 z hk (fun g r1 r2 => ?_)
    have r := hM.np r1.to2 r2
    exact hK g r.1 r.2
  · rw [if_neg z, if_neg z] at hK
    exact Ct_of rfl (Nat.le_of_ble_eq_true rfl) (b_X12_split_0 (hs := e_in01 _ _ _ _) (hK := fun _ => hK f (Fr.rf _ _ _) hM) (hw12_r0 := hw) (hc_wayOf := fun q => absurd (ev.mpr z) q) (hK_2 := fun q => absurd (ev.mpr z) q))
theorem m_runL {n : Nat} (hw : WF12 μ y) (hn : n ≤ 20) : ∀ (m i : Nat), i + m = n → ∀ (z : Int32) (c : Nat) (p : Nat → Nat) (g : Nat → Nat → Int32), MFr f g y → Pg0 g y p → okP p → (∀ g', MFr f g' y → Pg0 g' y (rn m z p).1 → K (some (.int (nI (c + (rn m z p).2)))) (sI μ g')) → G X (Rm (d + 3)) mX12_run 22 [(0, .ref y), (2, .int (nI n)), (3, .int z), (4, .int (nI c)), (5, .int (nI i))] [] (sI μ g) 0 0 K := by
  intro m
  induction m with
  | zero =>
    intro i hi z c p g h1 h2 h3 h4
    have e : i = n := by omega
    subst e
    rw [rn_0] at h4
    exact b_X12_run_22 (hK := fun _ => h4 g h1 h2) (hw12_r0 := hw) (hc_does := fun q => absurd (le_r _) q)
  | succ m ih =>
    intro i hi z c p g h1 h2 h3 h4
    rw [rn_s] at h4
    refine b_X12_run_22 (hK := fun q => absurd q (ge_c (by omega) (by omega))) (hw12_r0 := hw) (hc_does := fun _ => ?_)
    rw [show z * 1103515245 + 12345 = lcg z from rfl, refG]
    generalize lcg z = w at h4 ⊢
    have gl := rGn_lt w
    rw [clsA gl, clsB gl, clsC gl]
    refine m_does (p := p) hw h2 h3 (by omega) (by omega) (by omega) (fun g1 r1 r2 => ?_)
    have fc : MFr f g1 y := h1.tr r1
    have r2 : Pg0 g1 y (rP w p) := r2
    have o2 : okP (rP w p) := okP_deed h3
    show G X (Rm (d + 3)) mX12_run 73 _ [.int (rA w p), .int (nI c)] _ 0 0 K
    generalize rA w p = A at h4 ⊢
    generalize rP w p = P at h4 r2 o2
    refine b_X12_run_73 (h := fun q => b_X12_run_81 ?_) (h_2 := fun q => b_X12_run_81 ?_)
    · rw [show nI c + 0 = nI (c + 0) from nI_add c 0]
      refine ih (i + 1) (by omega) w (c + 0) P g1 fc r2 o2 (fun g' a b => ?_)
      have k := h4 g' a b
      rw [if_pos q, Nat.zero_add] at k
      exact k
    · rw [nI_1]
      refine ih (i + 1) (by omega) w (c + 1) P g1 fc r2 o2 (fun g' a b => ?_)
      have k := h4 g' a b
      rw [if_neg q, ← Nat.add_assoc] at k
      exact k
theorem M_run {s n : Nat} (hw : WF12 μ y) (hM : MI f y σ) (hO : OKs σ) (hn : n < 2 ^ 32) (hK : ∀ f', Fr f f' y 17 → MI f' y (N_run σ s n) → K (some (.int (R_run σ s n))) (sI μ f')) : Ct X (Rm (d + 3)) mX12_run [.ref y, .int (nI s), .int (nI n)] (sI μ f) K := by
  have e : e_X12_in (sI μ f) (nI n).toInt64 1 20 = 0 ↔ ¬ (1 ≤ n ∧ n ≤ 20) := by
    rw [e_in0, i64, nI_u hn]
    have e1 : (1 : Int64).toInt = 1 := by decide
    have e20 : (20 : Int64).toInt = 20 := by decide
    rw [e1, e20]
    split <;> omega
  unfold N_run R_run at hK
  refine Ct_of rfl (Nat.le_of_ble_eq_true rfl) (b_X12_run_0 (h := fun q => ?_) (hK := fun q => ?_))
  · have z : 1 ≤ n ∧ n ≤ 20 := Decidable.byContradiction fun z => q (e.mpr z)
    rw [if_pos z, if_pos z] at hK
    refine m_runL hw z.2 n 0 (by omega) (nI s) 0 (σ 0) f (MFr.rf _ _) hM.1 hO.1 (fun g a b => ?_)
    have r := hM.np a.to2 b
    rw [Nat.zero_add]
    exact hK g r.1 r.2
  · rw [if_neg (e.mp q), if_neg (e.mp q)] at hK
    exact hK f (Fr.rf _ _ _) hM
end P51
