/-- what a constructor keeps: E are the cells whose references change, D the new cells that hold numbers -/
def EX (E D : Nat → Prop) (μ ν : mM) : Prop := sz μ ≤ sz ν ∧ (∀ z, z < sz μ → kd ν z = kd μ z) ∧ (∀ z j, z < sz μ → ¬ E z → rv ν z j = rv μ z j) ∧ (∀ z j, z < sz μ → iv ν z j = iv μ z j) ∧ ∀ z j, sz μ ≤ z → z < sz ν → ¬ D z → iv ν z j = 0
abbrev D0 : Nat → Prop := fun _ => False
section P70
variable {μ ν ξ : mM} {E E' D : Nat → Prop} {a s k : Nat}
theorem EX.tr (h : EX E D μ ν) (g : EX E D ν ξ) : EX E D μ ξ := by
  obtain ⟨h1, h2, h3, h4, h5⟩ := h
  obtain ⟨g1, g2, g3, g4, g5⟩ := g
  refine ⟨by omega, fun z hz => (g2 z (by omega)).trans (h2 z hz), fun z j hz he => (g3 z j (by omega) he).trans (h3 z j hz he), fun z j hz => (g4 z j (by omega)).trans (h4 z j hz), fun z j hz hz2 hd => ?_⟩
  by_cases h : z < sz ν
  · exact (g4 z j h).trans (h5 z j hz h hd)
  · exact g5 z j (by omega) hz2 hd
theorem EX.mono (h : EX E D μ ν) (g : ∀ z, z < sz μ → E z → E' z) : EX E' D μ ν := ⟨h.1, h.2.1, fun z j hz he => h.2.2.1 z j hz (fun q => he (g z hz q)), h.2.2.2⟩
theorem EX.a1 {q : Nat × Nat} : EX E D μ (al μ q) := ⟨by rw [sz_al]; omega, fun z hz => by rw [kd_al, if_neg (by omega)], fun z j hz _ => by rw [rv_al, if_neg (by omega)], fun z j hz => by rw [iv_al, if_neg (by omega)], fun z j h1 h2 _ => by rw [sz_al] at h2; rw [iv_al, if_pos (by omega)]⟩
theorem EX.mn {N K : Nat} : EX E D μ (mna μ N K) := ⟨by rw [sz_mna]; omega, fun z hz => by rw [kd_mna, if_neg (by omega), if_neg (by omega)], fun z j hz _ => by rw [rv_mna, if_neg (by omega), if_neg (by omega)], fun z j hz => by rw [iv_mna, if_neg (by omega)], fun z j h1 h2 _ => by rw [sz_mna] at h2; rw [iv_mna, if_pos (by omega)]⟩
theorem EX.w1 {v : Option Nat} (h : E a) : EX E D μ (wr μ a k v) := ⟨Nat.le_refl _, fun _ _ => rfl, fun z j _ he => by rw [rv_wr, if_neg (fun q : z = a ∧ j = k => he (q.1 ▸ h))], fun _ _ _ => rfl, fun z j h1 h2 _ => by rw [sz_wr] at h2; omega⟩
theorem EX.sub {q : Nat × Nat} (hs : sz μ = s) (h : EX (· = s) D (al μ q) ν) : EX E D μ ν := by
  obtain ⟨h1, h2, h3, h4, h5⟩ := h
  rw [sz_al] at h1 h2 h3 h4 h5
  refine ⟨by omega, fun z hz => (h2 z (by omega)).trans (by rw [kd_al, if_neg (by omega)]), fun z j hz he => (h3 z j (by omega) (by omega)).trans (by rw [rv_al, if_neg (by omega)]), fun z j hz => (h4 z j (by omega)).trans (by rw [iv_al, if_neg (by omega)]), fun z j hz hz2 hd => ?_⟩
  by_cases h : z = sz μ
  · exact (h4 z j (by omega)).trans (by rw [iv_al, if_pos h])
  · exact h5 z j (by omega) hz2 hd
/-- one field of a gets its new object or array at s -/
def SG (D : Nat → Prop) (a k s : Nat) (μ ν : mM) : Prop := EX (· = a) D μ ν ∧ ∀ j, rv ν a j = if j = k then some s else rv μ a j
theorem SG_al (k : Nat) {q : Nat × Nat} (D : Nat → Prop) (hs : sz μ = s) (ha : a < s) : SG D a k s μ (wr (al μ q) a k (some (sz μ))) ∧ sz (wr (al μ q) a k (some (sz μ))) = s + 1 ∧ kd (wr (al μ q) a k (some (sz μ))) s = q := by
  subst hs
  refine ⟨⟨EX.a1.tr (EX.w1 rfl), fun j => ?_⟩, rfl, ?_⟩
  · rw [rv_wr, rv_al, if_neg (show a ≠ sz μ by omega)]; simp
  · rw [kd_wr, kd_al, if_pos rfl]
theorem SG_mna (k : Nat) {N K : Nat} (D : Nat → Prop) (hs : sz μ = s) (ha : a < s) : SG D a k s μ (wr (mna μ N K) a k (some (sz μ))) ∧ sz (wr (mna μ N K) a k (some (sz μ))) = s + 1 + N ∧ kd (wr (mna μ N K) a k (some (sz μ))) s = (4, N) ∧ (∀ i, i < N → rv (wr (mna μ N K) a k (some (sz μ))) s i = some (s + 1 + i)) ∧ ∀ i, i < N → kd (wr (mna μ N K) a k (some (sz μ))) (s + 1 + i) = (1, K) := by
  subst hs
  refine ⟨⟨EX.mn.tr (EX.w1 rfl), fun j => ?_⟩, rfl, ?_, fun i hi => ?_, fun i hi => ?_⟩
  · rw [rv_wr, rv_mna, if_neg (show a ≠ sz μ by omega), if_neg (show ¬ (sz μ < a ∧ a ≤ sz μ + N) by omega)]; simp
  · rw [kd_wr, kd_mna, if_pos rfl]
  · rw [rv_wr, if_neg (by omega), rv_mna, if_pos rfl, if_pos hi]
  · rw [kd_wr, kd_mna, if_neg (by omega), if_pos (by omega)]
theorem SG_sub (k : Nat) {q : Nat × Nat} (hs : sz μ = s) (ha : a < s) (h : EX (· = s) D (al μ q) ν) : SG D a k s μ (wr ν a k (some (sz μ))) ∧ EX (· = a) D ν (wr ν a k (some (sz μ))) ∧ sz (wr ν a k (some (sz μ))) = sz ν := by
  subst hs
  refine ⟨⟨(EX.sub rfl h).tr (EX.w1 rfl), fun j => ?_⟩, EX.w1 rfl, rfl⟩
  rw [rv_wr, h.2.2.1 a j (by rw [sz_al]; omega) (by omega), rv_al, if_neg (show a ≠ sz μ by omega)]; simp
/-- written at s alone -/
def WX (s : Nat) (μ ν : mM) : Prop := sz ν = sz μ ∧ (∀ z, kd ν z = kd μ z) ∧ (∀ z j, rv ν z j = rv μ z j) ∧ ∀ z j, z ≠ s → iv ν z j = iv μ z j
theorem WX.rf : WX s μ μ := ⟨rfl, fun _ => rfl, fun _ _ => rfl, fun _ _ _ => rfl⟩
theorem WX.w1 {v : Int32} (h : WX s μ ν) : WX s μ (wi ν s k v) := ⟨h.1, h.2.1, h.2.2.1, fun z j hz => by rw [iv_wi, if_neg (fun q : z = s ∧ j = k => hz q.1)]; exact h.2.2.2 z j hz⟩
theorem iv_wi_s {v : Int32} {j : Nat} : iv (wi μ s k v) s j = if j = k then v else iv μ s j := by rw [iv_wi]; simp
theorem SG_w (k : Nat) {q : Nat × Nat} (hs : sz μ = s) (ha : a < s) (h : WX s (al μ q) ν) (hD : D s ∨ ∀ j, iv ν s j = 0) : SG D a k s μ (wr ν a k (some (sz μ))) ∧ sz (wr ν a k (some (sz μ))) = s + 1 ∧ kd (wr ν a k (some (sz μ))) s = q := by
  subst hs
  obtain ⟨h1, h2, h3, h4⟩ := h
  rw [sz_al] at h1
  refine ⟨⟨EX.tr (ν := ν) ⟨by omega, fun z hz => ?_, fun z j hz _ => ?_, fun z j hz => ?_, fun z j hz hz2 hd => ?_⟩ (EX.w1 rfl), fun j => ?_⟩, h1, ?_⟩
  · rw [h2, kd_al, if_neg (by omega)]
  · rw [h3, rv_al, if_neg (by omega)]
  · rw [h4 z j (by omega), iv_al, if_neg (by omega)]
  · have e : z = sz μ := by omega
    subst e
    rcases hD with hD | hD
    · exact absurd hD hd
    · exact hD j
  · rw [rv_wr, h3, rv_al, if_neg (show a ≠ sz μ by omega)]; simp
  · rw [kd_wr, h2, kd_al, if_pos rfl]
theorem WF0.ex (h : WF0 μ a) (g : EX E D μ ν) (hs : a + 3 ≤ sz μ) (hn : ∀ z, a ≤ z → z < a + 3 → ¬ E z) : WF0 ν a := by
  have kk : ∀ z, a ≤ z → z < a + 3 → kd ν z = kd μ z := fun z _ _ => g.2.1 z (by omega)
  have rr : ∀ z j, a ≤ z → z < a + 3 → rv ν z j = rv μ z j := fun z j h1 h2 => g.2.2.1 z j (by omega) (hn z h1 h2)
  exact ⟨(kk _ (by omega) (by omega)).trans h.1, (rr _ _ (by omega) (by omega)).trans h.2.1, (kk _ (by omega) (by omega)).trans h.2.2.1, (rr _ _ (by omega) (by omega)).trans h.2.2.2.1, (kk _ (by omega) (by omega)).trans h.2.2.2.2⟩
theorem WF1.ex (h : WF1 μ a) (g : EX E D μ ν) (hs : a + 2 ≤ sz μ) (hn : ∀ z, a ≤ z → z < a + 2 → ¬ E z) : WF1 ν a := by
  have kk : ∀ z, a ≤ z → z < a + 2 → kd ν z = kd μ z := fun z _ _ => g.2.1 z (by omega)
  have rr : ∀ z j, a ≤ z → z < a + 2 → rv ν z j = rv μ z j := fun z j h1 h2 => g.2.2.1 z j (by omega) (hn z h1 h2)
  exact ⟨(kk _ (by omega) (by omega)).trans h.1, (rr _ _ (by omega) (by omega)).trans h.2.1, (kk _ (by omega) (by omega)).trans h.2.2⟩
theorem WF2.ex (h : WF2 μ a) (g : EX E D μ ν) (hs : a + 26 ≤ sz μ) (hn : ∀ z, a ≤ z → z < a + 26 → ¬ E z) : WF2 ν a := by
  have kk : ∀ z, a ≤ z → z < a + 26 → kd ν z = kd μ z := fun z _ _ => g.2.1 z (by omega)
  have rr : ∀ z j, a ≤ z → z < a + 26 → rv ν z j = rv μ z j := fun z j h1 h2 => g.2.2.1 z j (by omega) (hn z h1 h2)
  exact ⟨(kk _ (by omega) (by omega)).trans h.1, (rr _ _ (by omega) (by omega)).trans h.2.1, (rr _ _ (by omega) (by omega)).trans h.2.2.1, (kk _ (by omega) (by omega)).trans h.2.2.2⟩
theorem WF3.ex (h : WF3 μ a) (g : EX E D μ ν) (hs : a + 8 ≤ sz μ) (hn : ∀ z, a ≤ z → z < a + 8 → ¬ E z) : WF3 ν a := by
  have kk : ∀ z, a ≤ z → z < a + 8 → kd ν z = kd μ z := fun z _ _ => g.2.1 z (by omega)
  have rr : ∀ z j, a ≤ z → z < a + 8 → rv ν z j = rv μ z j := fun z j h1 h2 => g.2.2.1 z j (by omega) (hn z h1 h2)
  exact ⟨(kk _ (by omega) (by omega)).trans h.1, (rr _ _ (by omega) (by omega)).trans h.2.1, (kk _ (by omega) (by omega)).trans h.2.2.1, (rr _ _ (by omega) (by omega)).trans h.2.2.2.1, (kk _ (by omega) (by omega)).trans h.2.2.2.2.1, (rr _ _ (by omega) (by omega)).trans h.2.2.2.2.2.1, (kk _ (by omega) (by omega)).trans h.2.2.2.2.2.2.1, (rr _ _ (by omega) (by omega)).trans h.2.2.2.2.2.2.2.1, (kk _ (by omega) (by omega)).trans h.2.2.2.2.2.2.2.2.1, (rr _ _ (by omega) (by omega)).trans h.2.2.2.2.2.2.2.2.2.1, (kk _ (by omega) (by omega)).trans h.2.2.2.2.2.2.2.2.2.2.1, (rr _ _ (by omega) (by omega)).trans h.2.2.2.2.2.2.2.2.2.2.2.1, (kk _ (by omega) (by omega)).trans h.2.2.2.2.2.2.2.2.2.2.2.2.1, (rr _ _ (by omega) (by omega)).trans h.2.2.2.2.2.2.2.2.2.2.2.2.2.1, (kk _ (by omega) (by omega)).trans h.2.2.2.2.2.2.2.2.2.2.2.2.2.2⟩
theorem WF4.ex (h : WF4 μ a) (g : EX E D μ ν) (hs : a + 1 ≤ sz μ) (hn : ∀ z, a ≤ z → z < a + 1 → ¬ E z) : WF4 ν a := by
  have kk : ∀ z, a ≤ z → z < a + 1 → kd ν z = kd μ z := fun z _ _ => g.2.1 z (by omega)
  have rr : ∀ z j, a ≤ z → z < a + 1 → rv ν z j = rv μ z j := fun z j h1 h2 => g.2.2.1 z j (by omega) (hn z h1 h2)
  exact (kk _ (by omega) (by omega)).trans h
theorem WF5.ex (h : WF5 μ a) (g : EX E D μ ν) (hs : a + 24 ≤ sz μ) (hn : ∀ z, a ≤ z → z < a + 24 → ¬ E z) : WF5 ν a := by
  have kk : ∀ z, a ≤ z → z < a + 24 → kd ν z = kd μ z := fun z _ _ => g.2.1 z (by omega)
  have rr : ∀ z j, a ≤ z → z < a + 24 → rv ν z j = rv μ z j := fun z j h1 h2 => g.2.2.1 z j (by omega) (hn z h1 h2)
  exact ⟨(kk _ (by omega) (by omega)).trans h.1, (rr _ _ (by omega) (by omega)).trans h.2.1, (kk _ (by omega) (by omega)).trans h.2.2.1, (rr _ _ (by omega) (by omega)).trans h.2.2.2.1, (kk _ (by omega) (by omega)).trans h.2.2.2.2.1, fun i hi => (rr _ _ (by omega) (by omega)).trans (h.2.2.2.2.2.1 i hi), fun i hi => (kk _ (by omega) (by omega)).trans (h.2.2.2.2.2.2.1 i hi), (rr _ _ (by omega) (by omega)).trans h.2.2.2.2.2.2.2.1, (kk _ (by omega) (by omega)).trans h.2.2.2.2.2.2.2.2.1, fun i hi => (rr _ _ (by omega) (by omega)).trans (h.2.2.2.2.2.2.2.2.2.1 i hi), fun i hi => (kk _ (by omega) (by omega)).trans (h.2.2.2.2.2.2.2.2.2.2.1 i hi), (rr _ _ (by omega) (by omega)).trans h.2.2.2.2.2.2.2.2.2.2.2.1, (kk _ (by omega) (by omega)).trans h.2.2.2.2.2.2.2.2.2.2.2.2.1, fun i hi => (rr _ _ (by omega) (by omega)).trans (h.2.2.2.2.2.2.2.2.2.2.2.2.2.1 i hi), fun i hi => (kk _ (by omega) (by omega)).trans (h.2.2.2.2.2.2.2.2.2.2.2.2.2.2.1 i hi), (rr _ _ (by omega) (by omega)).trans h.2.2.2.2.2.2.2.2.2.2.2.2.2.2.2.1, (kk _ (by omega) (by omega)).trans h.2.2.2.2.2.2.2.2.2.2.2.2.2.2.2.2.1, fun i hi => (rr _ _ (by omega) (by omega)).trans (h.2.2.2.2.2.2.2.2.2.2.2.2.2.2.2.2.2.1 i hi), fun i hi => (kk _ (by omega) (by omega)).trans (h.2.2.2.2.2.2.2.2.2.2.2.2.2.2.2.2.2.2 i hi)⟩
theorem WF6.ex (h : WF6 μ a) (g : EX E D μ ν) (hs : a + 1 ≤ sz μ) (hn : ∀ z, a ≤ z → z < a + 1 → ¬ E z) : WF6 ν a := by
  have kk : ∀ z, a ≤ z → z < a + 1 → kd ν z = kd μ z := fun z _ _ => g.2.1 z (by omega)
  have rr : ∀ z j, a ≤ z → z < a + 1 → rv ν z j = rv μ z j := fun z j h1 h2 => g.2.2.1 z j (by omega) (hn z h1 h2)
  exact ⟨(kk _ (by omega) (by omega)).trans h.1, (rr _ _ (by omega) (by omega)).trans h.2⟩
theorem WF7.ex (h : WF7 μ a) (g : EX E D μ ν) (hs : a + 2 ≤ sz μ) (hn : ∀ z, a ≤ z → z < a + 2 → ¬ E z) : WF7 ν a := by
  have kk : ∀ z, a ≤ z → z < a + 2 → kd ν z = kd μ z := fun z _ _ => g.2.1 z (by omega)
  have rr : ∀ z j, a ≤ z → z < a + 2 → rv ν z j = rv μ z j := fun z j h1 h2 => g.2.2.1 z j (by omega) (hn z h1 h2)
  exact ⟨(kk _ (by omega) (by omega)).trans h.1, (rr _ _ (by omega) (by omega)).trans h.2.1, (kk _ (by omega) (by omega)).trans h.2.2⟩
theorem WF8.ex (h : WF8 μ a) (g : EX E D μ ν) (hs : a + 1 ≤ sz μ) (hn : ∀ z, a ≤ z → z < a + 1 → ¬ E z) : WF8 ν a := by
  have kk : ∀ z, a ≤ z → z < a + 1 → kd ν z = kd μ z := fun z _ _ => g.2.1 z (by omega)
  have rr : ∀ z j, a ≤ z → z < a + 1 → rv ν z j = rv μ z j := fun z j h1 h2 => g.2.2.1 z j (by omega) (hn z h1 h2)
  exact (kk _ (by omega) (by omega)).trans h
theorem WF9.ex (h : WF9 μ a) (g : EX E D μ ν) (hs : a + 2 ≤ sz μ) (hn : ∀ z, a ≤ z → z < a + 2 → ¬ E z) : WF9 ν a := by
  have kk : ∀ z, a ≤ z → z < a + 2 → kd ν z = kd μ z := fun z _ _ => g.2.1 z (by omega)
  have rr : ∀ z j, a ≤ z → z < a + 2 → rv ν z j = rv μ z j := fun z j h1 h2 => g.2.2.1 z j (by omega) (hn z h1 h2)
  exact ⟨(kk _ (by omega) (by omega)).trans h.1, (rr _ _ (by omega) (by omega)).trans h.2.1, (kk _ (by omega) (by omega)).trans h.2.2⟩
theorem WF10.ex (h : WF10 μ a) (g : EX E D μ ν) (hs : a + 26 ≤ sz μ) (hn : ∀ z, a ≤ z → z < a + 26 → ¬ E z) : WF10 ν a := by
  have kk : ∀ z, a ≤ z → z < a + 26 → kd ν z = kd μ z := fun z _ _ => g.2.1 z (by omega)
  have rr : ∀ z j, a ≤ z → z < a + 26 → rv ν z j = rv μ z j := fun z j h1 h2 => g.2.2.1 z j (by omega) (hn z h1 h2)
  exact ⟨(kk _ (by omega) (by omega)).trans h.1, (rr _ _ (by omega) (by omega)).trans h.2.1, (rr _ _ (by omega) (by omega)).trans h.2.2.1, (kk _ (by omega) (by omega)).trans h.2.2.2.1, fun i hi => (rr _ _ (by omega) (by omega)).trans (h.2.2.2.2 i hi)⟩
theorem WF11.ex (h : WF11 μ a) (g : EX E D μ ν) (hs : a + 123 ≤ sz μ) (hn : ∀ z, a ≤ z → z < a + 123 → ¬ E z) : WF11 ν a := by
  have kk : ∀ z, a ≤ z → z < a + 123 → kd ν z = kd μ z := fun z _ _ => g.2.1 z (by omega)
  have rr : ∀ z j, a ≤ z → z < a + 123 → rv ν z j = rv μ z j := fun z j h1 h2 => g.2.2.1 z j (by omega) (hn z h1 h2)
  exact ⟨(kk _ (by omega) (by omega)).trans h.1, (rr _ _ (by omega) (by omega)).trans h.2.1, (rr _ _ (by omega) (by omega)).trans h.2.2.1, (rr _ _ (by omega) (by omega)).trans h.2.2.2.1, (kk _ (by omega) (by omega)).trans h.2.2.2.2.1, fun i hi => (rr _ _ (by omega) (by omega)).trans (h.2.2.2.2.2.1 i hi), (rr _ _ (by omega) (by omega)).trans h.2.2.2.2.2.2.1, (kk _ (by omega) (by omega)).trans h.2.2.2.2.2.2.2.1, (rr _ _ (by omega) (by omega)).trans h.2.2.2.2.2.2.2.2.1, (kk _ (by omega) (by omega)).trans h.2.2.2.2.2.2.2.2.2.1, fun i hi => (rr _ _ (by omega) (by omega)).trans (h.2.2.2.2.2.2.2.2.2.2.1 i hi), (rr _ _ (by omega) (by omega)).trans h.2.2.2.2.2.2.2.2.2.2.2.1, (rr _ _ (by omega) (by omega)).trans h.2.2.2.2.2.2.2.2.2.2.2.2.1, (rr _ _ (by omega) (by omega)).trans h.2.2.2.2.2.2.2.2.2.2.2.2.2.1, (rr _ _ (by omega) (by omega)).trans h.2.2.2.2.2.2.2.2.2.2.2.2.2.2.1, (rr _ _ (by omega) (by omega)).trans h.2.2.2.2.2.2.2.2.2.2.2.2.2.2.2.1, (rr _ _ (by omega) (by omega)).trans h.2.2.2.2.2.2.2.2.2.2.2.2.2.2.2.2⟩
theorem WF12.ex (h : WF12 μ a) (g : EX E D μ ν) (hs : a + 17 ≤ sz μ) (hn : ∀ z, a ≤ z → z < a + 17 → ¬ E z) : WF12 ν a := by
  have kk : ∀ z, a ≤ z → z < a + 17 → kd ν z = kd μ z := fun z _ _ => g.2.1 z (by omega)
  have rr : ∀ z j, a ≤ z → z < a + 17 → rv ν z j = rv μ z j := fun z j h1 h2 => g.2.2.1 z j (by omega) (hn z h1 h2)
  exact ⟨(kk _ (by omega) (by omega)).trans h.1, (rr _ _ (by omega) (by omega)).trans h.2.1, (kk _ (by omega) (by omega)).trans h.2.2.1, (rr _ _ (by omega) (by omega)).trans h.2.2.2.1, (kk _ (by omega) (by omega)).trans h.2.2.2.2.1, (rr _ _ (by omega) (by omega)).trans h.2.2.2.2.2.1, (kk _ (by omega) (by omega)).trans h.2.2.2.2.2.2.1, (rr _ _ (by omega) (by omega)).trans h.2.2.2.2.2.2.2.1, (kk _ (by omega) (by omega)).trans h.2.2.2.2.2.2.2.2.1, (rr _ _ (by omega) (by omega)).trans h.2.2.2.2.2.2.2.2.2.1, (kk _ (by omega) (by omega)).trans h.2.2.2.2.2.2.2.2.2.2.1, (rr _ _ (by omega) (by omega)).trans h.2.2.2.2.2.2.2.2.2.2.2.1, (kk _ (by omega) (by omega)).trans h.2.2.2.2.2.2.2.2.2.2.2.2.1, (rr _ _ (by omega) (by omega)).trans h.2.2.2.2.2.2.2.2.2.2.2.2.2.1, (kk _ (by omega) (by omega)).trans h.2.2.2.2.2.2.2.2.2.2.2.2.2.2.1, (rr _ _ (by omega) (by omega)).trans h.2.2.2.2.2.2.2.2.2.2.2.2.2.2.2.1, (kk _ (by omega) (by omega)).trans h.2.2.2.2.2.2.2.2.2.2.2.2.2.2.2.2.1, (rr _ _ (by omega) (by omega)).trans h.2.2.2.2.2.2.2.2.2.2.2.2.2.2.2.2.2.1, (kk _ (by omega) (by omega)).trans h.2.2.2.2.2.2.2.2.2.2.2.2.2.2.2.2.2.2.1, (rr _ _ (by omega) (by omega)).trans h.2.2.2.2.2.2.2.2.2.2.2.2.2.2.2.2.2.2.2.1, (kk _ (by omega) (by omega)).trans h.2.2.2.2.2.2.2.2.2.2.2.2.2.2.2.2.2.2.2.2.1, (rr _ _ (by omega) (by omega)).trans h.2.2.2.2.2.2.2.2.2.2.2.2.2.2.2.2.2.2.2.2.2.1, (kk _ (by omega) (by omega)).trans h.2.2.2.2.2.2.2.2.2.2.2.2.2.2.2.2.2.2.2.2.2.2.1, (rr _ _ (by omega) (by omega)).trans h.2.2.2.2.2.2.2.2.2.2.2.2.2.2.2.2.2.2.2.2.2.2.2.1, (kk _ (by omega) (by omega)).trans h.2.2.2.2.2.2.2.2.2.2.2.2.2.2.2.2.2.2.2.2.2.2.2.2.1, (rr _ _ (by omega) (by omega)).trans h.2.2.2.2.2.2.2.2.2.2.2.2.2.2.2.2.2.2.2.2.2.2.2.2.2.1, (kk _ (by omega) (by omega)).trans h.2.2.2.2.2.2.2.2.2.2.2.2.2.2.2.2.2.2.2.2.2.2.2.2.2.2.1, (rr _ _ (by omega) (by omega)).trans h.2.2.2.2.2.2.2.2.2.2.2.2.2.2.2.2.2.2.2.2.2.2.2.2.2.2.2.1, (kk _ (by omega) (by omega)).trans h.2.2.2.2.2.2.2.2.2.2.2.2.2.2.2.2.2.2.2.2.2.2.2.2.2.2.2.2.1, (rr _ _ (by omega) (by omega)).trans h.2.2.2.2.2.2.2.2.2.2.2.2.2.2.2.2.2.2.2.2.2.2.2.2.2.2.2.2.2.1, (kk _ (by omega) (by omega)).trans h.2.2.2.2.2.2.2.2.2.2.2.2.2.2.2.2.2.2.2.2.2.2.2.2.2.2.2.2.2.2.1, (rr _ _ (by omega) (by omega)).trans h.2.2.2.2.2.2.2.2.2.2.2.2.2.2.2.2.2.2.2.2.2.2.2.2.2.2.2.2.2.2.2.1, (kk _ (by omega) (by omega)).trans h.2.2.2.2.2.2.2.2.2.2.2.2.2.2.2.2.2.2.2.2.2.2.2.2.2.2.2.2.2.2.2.2⟩
theorem WTo.ex (h : WTo μ a) (g : EX E D μ ν) (hs : a + 58 ≤ sz μ) (hn : ∀ z, a ≤ z → z < a + 58 → ¬ E z) : WTo ν a := ⟨h.1.ex g (by omega) (fun z h1 h2 => hn z h1 (by omega)), h.2.1.ex g (by omega) (fun z h1 h2 => hn z (by omega) (by omega)), fun k hk => (h.2.2 k hk).ex g (by omega) (fun z h1 h2 => hn z (by omega) (by omega))⟩
end P70
abbrev RC (n c s : Nat) : Room := { frames := n, cells := c, slots := s, locals := 64 * n }
