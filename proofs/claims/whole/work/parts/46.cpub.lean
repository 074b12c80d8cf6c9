theorem eqU {w n : Nat} (hw : w < 2 ^ 32) (hn : n < 2 ^ 32) (h : nI w = nI n) : w = n := (nI_eqU hw hn).mp h
/-- a switch's default: none of the numbers up to n -/
theorem dfl {w n : Nat} (hw : w < 2 ^ 32) (h : (nI w).toInt < 0 ∨ (n : Int) < (nI w).toInt) : n < w ∨ 2 ^ 31 ≤ w := by
  rw [nI_u hw] at h
  split at h <;> omega
theorem rng1 {i n : Nat} {c : Int32} (hi : i < 2 ^ 32) (hn : n < 2 ^ 31) (hc : c = nI n) : (if nI i < 0 then (0 : Int32) else (if c ≤ nI i then 0 else 1)) = 0 ↔ ¬ i < n := by
  have e2 : (1 : Int32) ≠ 0 := by decide
  subst hc
  by_cases h1 : nI i < 0
  · rw [if_pos h1]
    rw [lt0 hi] at h1
    simp; omega
  · rw [if_neg h1]
    rw [lt0 hi] at h1
    have e : (nI n ≤ nI i) ↔ n ≤ i := nI_leI hn (by omega)
    by_cases h2 : n ≤ i
    · rw [if_pos (e.mpr h2)]; simp; omega
    · rw [if_neg (fun q => h2 (e.mp q))]; simp [e2]; omega
theorem rng2 {i n : Nat} {c : Int32} (hi : i < 2 ^ 32) (hn : n < 2 ^ 31) (hc : c = nI n) : (if nI i < 0 then (0 : Int32) else (if c < nI i then 0 else 1)) = 0 ↔ ¬ i ≤ n := by
  have e2 : (1 : Int32) ≠ 0 := by decide
  subst hc
  by_cases h1 : nI i < 0
  · rw [if_pos h1]
    rw [lt0 hi] at h1
    simp; omega
  · rw [if_neg h1]
    rw [lt0 hi] at h1
    have e : (nI n < nI i) ↔ n < i := nI_ltI hn (by omega)
    by_cases h2 : n < i
    · rw [if_pos (e.mpr h2)]; simp; omega
    · rw [if_neg (fun q => h2 (e.mp q))]; simp [e2]; omega
theorem isSw {μ : mM} {i : Nat} (hi : i < 2 ^ 32) : e_X11_isSwitch μ (nI i) = 0 ↔ ¬ i ≤ 1 := by
  unfold e_X11_isSwitch
  have e2 : (1 : Int32) ≠ 0 := by decide
  have e0 : (nI i = 0) ↔ i = 0 := nI_eqU (b := 0) hi (by decide)
  have e1 : (nI i = (1 : Int32)) ↔ i = 1 := nI_eqU (b := 1) hi (by decide)
  by_cases q : i = 0
  · rw [if_pos (e0.mpr q)]; simp [e2]; omega
  · rw [if_neg (fun w => q (e0.mp w))]
    by_cases q1 : i = 1
    · rw [if_pos (e1.mpr q1)]; simp [e2]; omega
    · rw [if_neg (fun w => q1 (e1.mp w))]; simp; omega
theorem isTr {μ : mM} {i : Nat} (hi : i < 2 ^ 32) : e_X11_isTruth μ (nI i) = 0 ↔ ¬ i ≤ 2 := rng2 hi (by decide) rfl
theorem isIm {μ : mM} {i : Nat} (hi : i < 2 ^ 32) : e_X11_isImage μ (nI i) = 0 ↔ ¬ i < 2 := rng1 hi (by decide) rfl
theorem isSh {μ : mM} {i : Nat} (hi : i < 2 ^ 32) : e_X11_isSheet μ (nI i) = 0 ↔ ¬ i < 4 := rng1 hi (by decide) rfl
theorem isLa {μ : mM} {i : Nat} (hi : i < 2 ^ 32) : e_X11_isLane μ (nI i) = 0 ↔ ¬ i < 3 := rng1 hi (by decide) rfl
theorem isFl {μ : mM} {i : Nat} (hi : i < 2 ^ 32) : e_X12_isFlag μ (nI i) = 0 ↔ ¬ i ≤ 1 := e_inN (n := 1) hi (by decide) (by decide)
def R_rule (σ : aS) (w : Nat) : Int32 := if w = 0 then nI (σ 0 60) else if w = 1 then nI (σ 5 0) else if w = 2 then nI (cq (σ 0) 1 0 6) else if w = 3 then nI (cq (σ 0) 1 6 18) else if w = 4 then nI (cq (σ 0) 1 24 36) else if w = 5 then nI (cq (σ 0) 2 6 18) else if w = 6 then nI (cq (σ 0) 2 24 36) else if w = 7 then nI (hb (σ 0) 9) else -1
theorem R_rule_d {σ : aS} {w : Nat} (h : 7 < w) : R_rule σ w = -1 := by
  unfold R_rule
  rw [if_neg (by omega), if_neg (by omega), if_neg (by omega), if_neg (by omega), if_neg (by omega), if_neg (by omega), if_neg (by omega), if_neg (by omega)]
def R_node (σ : aS) (i w : Nat) : Int32 := if i < σ 0 60 ∧ w ≤ 6 then (if w = 0 then nI (σ 0 i) else if w ≤ 3 then nI (σ 0 (6 + 6 * (w - 1) + i)) else nI (rchP (σ 0) (w - 4) i)) else -1
def R_pair (σ : aS) (i j w : Nat) : Int32 := if i < σ 0 60 ∧ j < σ 0 60 ∧ w ≤ 2 then (if w = 0 then nI (σ 0 (24 + 6 * i + j)) else if w = 1 then nI (wayF (σ 0) (σ 0 60) (6 * i + j)) else nI (samP (σ 0) i j)) else -1
def R_held (σ : aS) (v : Nat) : Int32 := if v < 3 then nI (hld (σ 0) v) else -1
def R_ask (σ : aS) (k : Nat) : Int32 := if k < σ 5 0 then nI (wrt (σ 0) (σ 4) (48 * k) (σ 4 (48 * k)) 0 (σ 0)) else -1
def R_formula (σ : aS) (k w : Nat) : Int32 := if k < σ 5 0 ∧ w ≤ 3 then nI (σ 4 (48 * k + w)) else -1
section P46
variable {X : cX} {d : Nat} {μ : mM} {K : Option Value → mM → Prop} {f : Nat → Nat → Int32} {x t u y : Nat} {σ : aS}
theorem WC.t2 (h : WC μ x t u) : t = x + 4 ∨ t = x + 62 := by
  have := h.tu
  omega
theorem FrC.shape {g : Nat → Nat → Int32} (h : ∀ z, (z < t + 1 ∨ t + 1 + 24 ≤ z) → ∀ j, g z j = f z j) : FrC f g x t := fun z a _ _ j => h z (by omega) j
theorem C_rule {w : Nat} (hW : WC μ x t u) (hC : CI f x t σ) (hO : OKs σ) (hw : w < 2 ^ 32) (hK : K (some (.int (R_rule σ w))) (sI μ f)) : Ct X (Rm (d + 3)) mX11_rule [.ref x, .int (nI w)] (sI μ f) K := by
  have hp := hO.1
  have h5 := hW.wt.2.1
  refine Ct_of rfl (Nat.le_of_ble_eq_true rfl) (b_X11_rule_0 (p0 := t) (hw11_r0 := hW.w11) (hr_p0 := hW.rt) (hw10_p0 := hW.wt.1) (hw5_p01 := h5) (hK := fun q => ?_) (hK_2 := fun q => ?_) (hc_manys := fun q => ?_) (hc_atsThatAre := fun q => ?_) (hc_nextsThatAre := fun q => ?_) (hc_atsThatAre_2 := fun q => ?_) (hc_nextsThatAre_2 := fun q => ?_) (hc_isHeap := fun q => ?_) (hK_3 := fun q => ?_))
  · have e := eqU (n := 0) hw (by decide) q
    subst e
    rw [iv_sI, hC.1.1]; exact hK
  · have e := eqU (n := 1) hw (by decide) q
    subst e
    rw [iv_sI, hC.2.2.1.1]; exact hK
  · have e := eqU (n := 2) hw (by decide) q
    subst e
    exact c_manys h5 hC.1 hp (b_X11_rule_73 (by rw [← cq_many hp]; exact hK))
  · have e := eqU (n := 3) hw (by decide) q
    subst e
    exact c_ats (t := 1) h5 hC.1 hp (by decide) (b_X11_rule_79 (by rw [sq_at hp (by decide)]; exact hK))
  · have e := eqU (n := 4) hw (by decide) q
    subst e
    exact c_nexts (t := 1) h5 hC.1 hp (by decide) (b_X11_rule_85 (by rw [sq_nx hp (by decide)]; exact hK))
  · have e := eqU (n := 5) hw (by decide) q
    subst e
    exact c_ats (t := 2) h5 hC.1 hp (by decide) (b_X11_rule_91 (by rw [sq_at hp (by decide)]; exact hK))
  · have e := eqU (n := 6) hw (by decide) q
    subst e
    exact c_nexts (t := 2) h5 hC.1 hp (by decide) (b_X11_rule_97 (by rw [sq_nx hp (by decide)]; exact hK))
  · have e := eqU (n := 7) hw (by decide) q
    subst e
    have hl := hb_le (σ 0) 9
    have hK : K (some (.int (nI (hb (σ 0) 9)))) (sI μ f) := hK
    refine c_isHeap h5 hC.1 hp (b_X11_rule_102 (hK := fun z => ?_) (hK_2 := fun z => ?_))
    · rw [z] at hK; exact hK
    · rw [nI_z (by omega)] at z
      rw [show hb (σ 0) 9 = 1 by omega] at hK
      exact hK
  · have e := dfl (n := 7) hw q
    rw [R_rule_d (by omega)] at hK
    exact hK
theorem C_node {i w : Nat} (hW : WC μ x t u) (hC : CI f x t σ) (hO : OKs σ) (hi : i < 2 ^ 32) (hw : w < 2 ^ 32) (hK : ∀ f', Fr f f' x 260 → CI f' x t σ → K (some (.int (R_node σ i w))) (sI μ f')) : Ct X (Rm (d + 3)) mX11_node [.ref x, .int (nI i), .int (nI w)] (sI μ f) K := by
  have hp := hO.1
  have h6 := hp.1
  have h5 := hW.wt.2.1
  have hh := e_has (μ := μ) (p := σ 0) hC.1.1 h6 hi
  have w0 := lt0 hw
  have BAD : ¬ (i < σ 0 60 ∧ w ≤ 6) → K (some (.int (-1))) (sI μ f) := fun q => by
    have := hK f (Fr.rf _ _ _) hC
    unfold R_node at this
    rw [if_neg q] at this
    exact this
  have w6 : ∀ _ : ¬ nI w < 0, (nI w ≤ (6 : Int32)) ↔ w ≤ 6 := fun q => nI_leI (b := 6) (by rw [w0] at q; omega) (by decide)
  have w3 : ∀ _ : ¬ nI w < 0, ((3 : Int32) < nI w) ↔ 3 < w := fun q => nI_ltI (a := 3) (by decide) (by rw [w0] at q; omega)
  have wz : (nI w = 0) ↔ w = 0 := nI_eqU (b := 0) hw (by decide)
  have G1 : i < σ 0 60 → w ≤ 6 → R_node σ i w = if w = 0 then nI (σ 0 i) else if w ≤ 3 then nI (σ 0 (6 + 6 * (w - 1) + i)) else nI (rchP (σ 0) (w - 4) i) := fun a b => if_pos ⟨a, b⟩
  refine Ct_of rfl (Nat.le_of_ble_eq_true rfl) (b_X11_node_0 (p0 := t) (j0 := w - 1) (hw11_r0 := hW.w11) (hr_p0 := hW.rt) (hw10_p0 := hW.wt.1) (hw5_p01 := h5) (hK := fun q => BAD (fun z => (hh.mp q) z.1)) (hK_2 := fun _ q => BAD (fun z => by rw [w0] at q; omega)) (hc_trace := fun q1 q2 q3 q4 q5 => ?_) (hi_j0 := fun q1 q2 q3 q4 q5 => ?_) (hb := fun q1 q2 q3 q4 q5 => ?_) (hb_2 := fun q1 q2 q3 q4 q5 => ?_) (hK_3 := fun q1 q2 q3 q4 q5 => ?_) (hb_3 := fun q1 q2 q3 q4 => ?_) (hK_4 := fun q1 q2 q3 q4 q5 => ?_) (hK_5 := fun q1 q2 q3 q4 q5 => ?_) (hK_6 := fun q1 q2 q3 => BAD (fun z => q3 ((w6 q2).mpr z.2))))
  · have hi2 : i < σ 0 60 := Decidable.byContradiction fun z => q1 (hh.mpr z)
    have z6 := (w6 q2).mp q3
    have z3 := (w3 q2).mp q5
    refine c_trace h5 hC.1 hp (fun f1 r1 r2 r3 => b_X11_node_67 (j0 := w - 4) (hw5_r3 := h5) (hi_j0 := ?_) (hb := by omega) (hb_2 := by omega) (hK := ?_))
    · have e1 : nI w - 1 = nI (w - 1) := pk_sub (b := 1) (by omega)
      have e2 : nI (w - 1) - 3 = nI (w - 1 - 3) := pk_sub (b := 3) (by omega)
      rw [e1, e2, show w - 1 - 3 = w - 4 by omega]
    · rw [iv_sI, r3 (w - 4) i (by omega) hi2]
      have sf : Sh f1 (t + 1) (σ 0) := hC.1.fr (fun z h1 h2 j => r1 z (by omega) j)
      have fc : FrC f f1 x t := FrC.shape (fun z hz j => r1 z (by omega) j)
      have := hK f1 (fc.out hW.t2) (hC.same fc.toI hW.t2 sf hO.2.2.1.1)
      rw [G1 hi2 z6, if_neg (by omega), if_neg (by omega)] at this
      exact this
  · exact pk_sub (b := 1) (by rw [wz] at q4; omega)
  · have z3 : ¬ 3 < w := fun z => q5 ((w3 q2).mpr z)
    rw [wz] at q4; omega
  · have hi2 : i < σ 0 60 := Decidable.byContradiction fun z => q1 (hh.mpr z)
    omega
  · have hi2 : i < σ 0 60 := Decidable.byContradiction fun z => q1 (hh.mpr z)
    have z6 := (w6 q2).mp q3
    have z3 : ¬ 3 < w := fun z => q5 ((w3 q2).mpr z)
    rw [wz] at q4
    have := hK f (Fr.rf _ _ _) hC
    rw [G1 hi2 z6, if_neg q4, if_pos (by omega)] at this
    rw [iv_sI, hC.1.2.2.1 (w - 1) i (by omega) (by omega)]
    exact this
  · have hi2 : i < σ 0 60 := Decidable.byContradiction fun z => q1 (hh.mpr z)
    omega
  · have hi2 : i < σ 0 60 := Decidable.byContradiction fun z => q1 (hh.mpr z)
    have z6 := (w6 q2).mp q3
    have l1 := hp.2.1 i (by omega)
    rw [wz] at q4
    rw [iv_sI, hC.1.2.1 i (by omega), nI_z (by omega)] at q5
    have := hK f (Fr.rf _ _ _) hC
    rw [G1 hi2 z6, if_pos q4, q5] at this
    exact this
  · have hi2 : i < σ 0 60 := Decidable.byContradiction fun z => q1 (hh.mpr z)
    have z6 := (w6 q2).mp q3
    have l1 := hp.2.1 i (by omega)
    rw [wz] at q4
    rw [iv_sI, hC.1.2.1 i (by omega), nI_z (by omega)] at q5
    have := hK f (Fr.rf _ _ _) hC
    rw [G1 hi2 z6, if_pos q4, show σ 0 i = 1 by omega] at this
    exact this
theorem C_pair {i j w : Nat} (hW : WC μ x t u) (hC : CI f x t σ) (hO : OKs σ) (hi : i < 2 ^ 32) (hj : j < 2 ^ 32) (hw : w < 2 ^ 32) (hK : ∀ f', Fr f f' x 260 → CI f' x t σ → K (some (.int (R_pair σ i j w))) (sI μ f')) : Ct X (Rm (d + 3)) mX11_pair [.ref x, .int (nI i), .int (nI j), .int (nI w)] (sI μ f) K := by
  have hp := hO.1
  have h6 := hp.1
  have h5 := hW.wt.2.1
  have hh := e_has (μ := μ) (p := σ 0) hC.1.1 h6 hi
  have hh2 := e_has (μ := μ) (p := σ 0) hC.1.1 h6 hj
  have BAD : ¬ (i < σ 0 60 ∧ j < σ 0 60 ∧ w ≤ 2) → K (some (.int (-1))) (sI μ f) := fun q => by
    have := hK f (Fr.rf _ _ _) hC
    unfold R_pair at this
    rw [if_neg q] at this
    exact this
  have G1 : i < σ 0 60 → j < σ 0 60 → w ≤ 2 → R_pair σ i j w = if w = 0 then nI (σ 0 (24 + 6 * i + j)) else if w = 1 then nI (wayF (σ 0) (σ 0 60) (6 * i + j)) else nI (samP (σ 0) i j) := fun a b c => if_pos ⟨a, b, c⟩
  have i2 : ¬ e_X5_has (sI μ f) (t + 1) (nI i) = 0 → i < σ 0 60 := fun q => Decidable.byContradiction fun z => q (hh.mpr z)
  have j2 : ¬ e_X5_has (sI μ f) (t + 1) (nI j) = 0 → j < σ 0 60 := fun q => Decidable.byContradiction fun z => q (hh2.mpr z)
  refine Ct_of rfl (Nat.le_of_ble_eq_true rfl) (b_X11_pair_0 (p0 := t) (hw11_r0 := hW.w11) (hr_p0 := hW.rt) (hw10_p0 := hW.wt.1) (hw5_p01 := h5) (hK := fun q => BAD (fun z => (hh.mp q) z.1)) (hb := fun q1 q2 q3 => by have := i2 q1; omega) (hb_2 := fun q1 q2 q3 => by have := j2 q2; omega) (hK_2 := fun q1 q2 q3 => ?_) (hc_trace := fun q1 q2 q3 => ?_) (hs := fun q1 q2 q3 _ => by have := i2 q1; omega) (hK_3 := fun q1 q2 q3 => ?_) (hK_4 := fun q1 q2 q3 => BAD (fun z => by have := dfl (n := 2) hw q3; omega)) (hK_5 := fun q1 q2 => BAD (fun z => (hh2.mp q2) z.2.1)))
  · have e := eqU (n := 0) hw (by decide) q3
    have z1 := i2 q1
    have z2 := j2 q2
    have := hK f (Fr.rf _ _ _) hC
    rw [G1 z1 z2 (by omega), if_pos e] at this
    rw [iv_sI, hC.1.2.2.2 i j (by omega) (by omega)]
    exact this
  · have e := eqU (n := 1) hw (by decide) q3
    have z1 := i2 q1
    have z2 := j2 q2
    refine c_trace h5 hC.1 hp (fun f1 r1 r2 r3 => b_X11_pair_71 (hw5_r4 := h5) (hb := by omega) (hb_2 := by omega) (hK := ?_))
    rw [iv_sI, r2 i j z1 z2]
    have sf : Sh f1 (t + 1) (σ 0) := hC.1.fr (fun z h1 h2 j => r1 z (by omega) j)
    have fc : FrC f f1 x t := FrC.shape (fun z hz j => r1 z (by omega) j)
    have := hK f1 (fc.out hW.t2) (hC.same fc.toI hW.t2 sf hO.2.2.1.1)
    rw [G1 z1 z2 (by omega), if_neg (by omega), if_pos e] at this
    exact this
  · have e := eqU (n := 2) hw (by decide) q3
    have z1 := i2 q1
    have z2 := j2 q2
    have := hK f (Fr.rf _ _ _) hC
    rw [G1 z1 z2 (by omega), if_neg (by omega), if_neg (by omega)] at this
    rw [smI hC.1 hp (by omega) (by omega)]
    exact this
theorem C_held {v : Nat} (hW : WC μ x t u) (hC : CI f x t σ) (hO : OKs σ) (hv : v < 2 ^ 32) (hK : K (some (.int (R_held σ v))) (sI μ f)) : Ct X (Rm (d + 2)) mX11_held [.ref x, .int (nI v)] (sI μ f) K := by
  have e := c_isV (μ := sI μ f) hv
  unfold R_held at hK
  refine Ct_of rfl (Nat.le_of_ble_eq_true rfl) (b_X11_held_0 (p0 := t) (hK := fun q => ?_) (hw11_r0 := hW.w11) (hr_p0 := hW.rt) (hw10_p0 := hW.wt.1) (hw5_p01 := hW.wt.2.1) (hc_holding := fun q => ?_))
  · rw [if_neg (e.mp q)] at hK; exact hK
  · have z : v < 3 := Decidable.byContradiction fun z => q (e.mpr z)
    rw [if_pos z] at hK
    exact c_holding hW.wt.2.1 hC.1 hO.1 z (b_X11_held_18 hK)
theorem C_ask {k : Nat} (hW : WC μ x t u) (hC : CI f x t σ) (hO : OKs σ) (hk : k < 2 ^ 32) (hK : ∀ f', Fr f f' x 260 → CI f' x t σ → K (some (.int (R_ask σ k))) (sI μ f')) : Ct X (Rm (d + 8)) mX11_ask [.ref x, .int (nI k)] (sI μ f) K := by
  have hp := hO.1
  have h6 := hp.1
  have h5 := hW.wt.2.1
  have hfm := hO.2.2.1
  have k0 := lt0 hk
  have em : iv (sI μ f) t 2 = nI (σ 5 0) := hC.2.2.1.1
  have h41 := hfm.1
  have kl : ∀ _ : ¬ nI k < 0, (nI k < iv (sI μ f) t 2) ↔ k < σ 5 0 := fun q => by rw [em]; exact nI_ltI (by rw [k0] at q; omega) (by omega)
  have BAD : ¬ k < σ 5 0 → K (some (.int (-1))) (sI μ f) := fun q => by
    have := hK f (Fr.rf _ _ _) hC
    unfold R_ask at this
    rw [if_neg q] at this
    exact this
  refine Ct_of rfl (Nat.le_of_ble_eq_true rfl) (b_X11_ask_0 (p0 := t) (hK := fun q => BAD (by rw [k0] at q; omega)) (hw11_r0 := hW.w11) (hr_p0 := hW.rt) (hw10_p0 := hW.wt.1) (hw5_p01 := h5) (hc_trace := fun q1 q2 => ?_) (hK_2 := fun q1 q2 => BAD (fun z => q2 ((kl q1).mpr z))))
  have kk := (kl q1).mp q2
  refine c_trace h5 hC.1 hp (fun f1 r1 r2 r3 => ?_)
  have sf : Sh f1 (t + 1) (σ 0) := hC.1.fr (fun z h1 h2 j => r1 z (by omega) j)
  have fc : FrC f f1 x t := FrC.shape (fun z hz j => r1 z (by omega) j)
  have C1 := hC.same fc.toI hW.t2 sf hO.2.2.1.1
  refine b_X11_ask_27 (p0 := t) (hw11_r0 := hW.w11) (hr_p0 := hW.rt) (hw10_p0 := hW.wt.1) (hb := by omega) (hw3_p0268i1 := hW.wt.2.2 k (by omega)) (hc_worth := ?_)
  refine c_worth (p := σ 0) (F := σ 4) (o := 48 * k) (hW.wt.2.2 k (by omega)) h5 (by omega) hp (hfm.2 k kk).1 sf r3 (C1.2.2.1.2 k kk) (fun f2 s1 => b_X11_ask_46 ?_)
  have sf2 : Sh f2 (t + 1) (σ 0) := sf.fr (fun z h1 h2 j => s1 z (by omega) (by omega) j)
  have fc2 : FrC f1 f2 x t := fun z a b c j => s1 z (by omega) (by omega) j
  have := hK f2 ((fc.tr fc2).out hW.t2) (C1.same fc2.toI hW.t2 sf2 hO.2.2.1.1)
  unfold R_ask at this
  rw [if_pos kk] at this
  exact this
theorem bits3 : ∀ L, L ≤ 3 → ∀ b, b < 2 ^ L → ∀ q, q < L → (b % 2 ^ q) ||| 2 ^ q * (b / 2 ^ q % 2) = b % 2 ^ (q + 1) := by decide
theorem c_allBits {a o : Nat} {F : Nat → Nat} (hw : WF3 μ a) (hc : CFm f a F o) (hL : F o ≤ 3) (hb : F (o + 1) < 2 ^ F o) (hK : K (some (.int (nI (F (o + 1))))) (sI μ f)) : Ct X (Rm d) mX3_allBits [.ref a] (sI μ f) K := by
  refine Ct_of rfl (Nat.le_of_ble_eq_true rfl) (b_X3_allBits_0 ?_)
  have e0 : iv (sI μ f) a 0 = nI (F o) := hc.1
  have H : ∀ q, q ≤ F o → G X (Rm d) mX3_allBits 4 [(0, .ref a), (1, .int (nI (F (o + 1) % 2 ^ q))), (2, .int (nI q))] [] (sI μ f) 0 0 K := by
    refine dn (F o) ?_ ?_
    · refine b_X3_allBits_4 (hw3_r0 := hw) (hK := fun _ => by rw [Nat.mod_eq_of_lt hb]; exact hK) (hb := ?_) (h := ?_) (h_2 := ?_) <;> (intro z; rw [e0] at z; exact absurd (le_r _) z)
    · intro q hq ih
      have e1 : iv (sI μ f) (a + 2) q = nI (bitF F o q) := hc.2.2.2.1 q hq
      have bl := bitF_le F o q
      have b3 := bits3 (F o) hL (F (o + 1)) hb q hq
      refine b_X3_allBits_4 (hw3_r0 := hw) (hK := fun z => absurd z (by rw [e0]; exact ge_c hq (by omega))) (hb := fun _ => by omega) (h := fun _ z => b_X3_allBits_27 ?_) (h_2 := fun _ z => b_X3_allBits_27 ?_)
      · rw [e1, nI_z (by omega)] at z
        unfold bitF at z
        rw [z, Nat.mul_zero, Nat.or_zero] at b3
        rw [b3]; exact ih
      · rw [e1, nI_z (by omega)] at z
        have z1 : F (o + 1) / 2 ^ q % 2 = 1 := by unfold bitF at z bl; omega
        rw [z1, Nat.mul_one] at b3
        rw [sh1 q (by omega), nI_or, b3]
        exact ih
  have := H 0 (Nat.zero_le _)
  rw [show F (o + 1) % 2 ^ 0 = 0 by rw [Nat.pow_zero]; exact Nat.mod_one _] at this
  exact this
theorem C_formula {k w : Nat} (hW : WC μ x t u) (hC : CI f x t σ) (hO : OKs σ) (hk : k < 2 ^ 32) (hw : w < 2 ^ 32) (hK : K (some (.int (R_formula σ k w))) (sI μ f)) : Ct X (Rm (d + 1)) mX11_formula [.ref x, .int (nI k), .int (nI w)] (sI μ f) K := by
  have hfm := hO.2.2.1
  have k0 := lt0 hk
  have em : iv (sI μ f) t 2 = nI (σ 5 0) := hC.2.2.1.1
  have h41 := hfm.1
  have kl : ∀ _ : ¬ nI k < 0, (nI k < iv (sI μ f) t 2) ↔ k < σ 5 0 := fun q => by rw [em]; exact nI_ltI (by rw [k0] at q; omega) (by omega)
  unfold R_formula at hK
  have BAD : ¬ (k < σ 5 0 ∧ w ≤ 3) → K (some (.int (-1))) (sI μ f) := fun q => by rw [if_neg q] at hK; exact hK
  refine Ct_of rfl (Nat.le_of_ble_eq_true rfl) (b_X11_formula_0c (p0 := t) (hK := fun q => BAD (fun z => by rw [k0] at q; omega)) (hw11_r0 := hW.w11) (hr_p0 := hW.rt) (hw10_p0 := hW.wt.1) (hb := fun q1 q2 => by have := (kl q1).mp q2; omega) (hw3_p0268i1 := fun q1 q2 _ => hW.wt.2.2 k (by have := (kl q1).mp q2; omega)) (hK_2 := fun q1 q2 q3 => ?_) (hw3_p0268i1_2 := fun q1 q2 _ => hW.wt.2.2 k (by have := (kl q1).mp q2; omega)) (hc_allBits := fun q1 q2 q3 => ?_) (hw3_p0268i1_3 := fun q1 q2 _ => hW.wt.2.2 k (by have := (kl q1).mp q2; omega)) (hK_3 := fun q1 q2 q3 => ?_) (hw3_p0268i1_4 := fun q1 q2 _ => hW.wt.2.2 k (by have := (kl q1).mp q2; omega)) (hK_4 := fun q1 q2 q3 => ?_) (hK_5 := fun q1 q2 q3 => BAD (fun z => by have := dfl (n := 3) hw q3; omega)) (hK_6 := fun q1 q2 => BAD (fun z => q2 ((kl q1).mpr z.1))))
  · have e := eqU (n := 0) hw (by decide) q3
    have kk := (kl q1).mp q2
    rw [if_pos ⟨kk, by omega⟩, e, Nat.add_zero] at hK
    rw [iv_sI, (hC.2.2.1.2 k kk).1]; exact hK
  · have e := eqU (n := 1) hw (by decide) q3
    have kk := (kl q1).mp q2
    rw [if_pos ⟨kk, by omega⟩, e] at hK
    exact c_allBits (hW.wt.2.2 k (by omega)) (hC.2.2.1.2 k kk) (hfm.2 k kk).1.1 (hfm.2 k kk).2 (b_X11_formula_69 hK)
  · have e := eqU (n := 2) hw (by decide) q3
    have kk := (kl q1).mp q2
    rw [if_pos ⟨kk, by omega⟩, e] at hK
    rw [iv_sI, (hC.2.2.1.2 k kk).2.1]; exact hK
  · have e := eqU (n := 3) hw (by decide) q3
    have kk := (kl q1).mp q2
    rw [if_pos ⟨kk, by omega⟩, e] at hK
    rw [iv_sI, (hC.2.2.1.2 k kk).2.2.1]; exact hK
end P46
