/-- what both tell: 0 the page, 1 and 2 the images, 3 which are kept, 4 the formulas, 5 how many formulas, fed letters, the text's fault, the read's fault, 6 the letters, 7 8 9 the sheets' lanes, lengths, cells -/
abbrev aS := Nat → Nat → Nat
def us (σ : aS) (r : Nat) (g : Nat → Nat) : aS := fun i => if i = r then g else σ i
theorem us_s (σ : aS) (r : Nat) (g : Nat → Nat) : us σ r g r = g := if_pos rfl
theorem us_n {σ : aS} {r i : Nat} {g : Nat → Nat} (h : i ≠ r) : us σ r g i = σ i := if_neg h
def okFm (σ : aS) : Prop := σ 5 0 ≤ 4 ∧ ∀ k, k < σ 5 0 → okF (σ 4) (48 * k) ∧ σ 4 (48 * k + 1) < 2 ^ σ 4 (48 * k)
def OKs (σ : aS) : Prop := okP (σ 0) ∧ (∀ k, k < 2 → okP (σ (1 + k)) ∧ σ 3 k ≤ 1) ∧ okFm σ ∧ (σ 5 1 ≤ 320 ∧ ∀ i, i < σ 5 1 → σ 6 i ≤ 127) ∧ (∀ k, k < 4 → σ 7 k ≤ 3 ∧ σ 8 k ≤ 40) ∧ ∀ i, i < 160 → σ 9 i < 2 ^ 32
def SHT (f : Nat → Nat → Int32) (a : Nat) (σ : aS) (k : Nat) : Prop := f a 0 = nI (if σ 7 k < 3 then 1 else 0) ∧ (σ 7 k < 3 → f a 1 = nI (σ 7 k) ∧ f a 2 = nI (σ 8 k)) ∧ ∀ i, i < 40 → f (a + 1) i = nI (σ 9 (40 * k + i))
/-- the class's object at x, told at t, tells σ -/
def CI (f : Nat → Nat → Int32) (x t : Nat) (σ : aS) : Prop := Sh f (t + 1) (σ 0) ∧ (∀ k, k < 2 → Sh f (x + 204 + 24 * k) (σ (1 + k)) ∧ f (x + 121) k = nI (σ 3 k)) ∧ (f t 2 = nI (σ 5 0) ∧ ∀ k, k < σ 5 0 → CFm f (t + 26 + 8 * k) (σ 4) (48 * k)) ∧ (f (x + 1) 1 = nI (σ 5 1) ∧ ∀ i, i < σ 5 1 → f (x + 2) i = nI (σ 6 i)) ∧ (f x 3 = nI (σ 5 2) ∧ f x 7 = nI (σ 5 3)) ∧ ∀ k, k < 4 → SHT f (x + 252 + 2 * k) σ k
def endN : Nat → Nat := fun i => [0, 2, 7, 11, 15, 19, 22, 25, 27, 31, 34, 39, 42, 46].getD i 0
def letN : Nat → Nat := fun i => [97, 116, 114, 101, 97, 99, 104, 110, 101, 120, 116, 115, 97, 109, 101, 109, 97, 110, 121, 110, 111, 116, 97, 110, 100, 111, 114, 110, 111, 100, 101, 97, 115, 107, 109, 97, 121, 98, 101, 97, 108, 108, 115, 111, 109, 101].getD i 0
def NM (f : Nat → Nat → Int32) (y : Nat) : Prop := (∀ i, i < 14 → f (y + 5) i = nI (endN i)) ∧ ∀ i, i < 46 → f (y + 6) i = nI (letN i)
/-- the reference's object at y tells σ -/
def MI (f : Nat → Nat → Int32) (y : Nat) (σ : aS) : Prop := Pg0 f y (σ 0) ∧ (∀ k, k < 2 → Pg f y (61 + 61 * k) (σ (1 + k)) ∧ f (y + 12) k = nI (σ 3 k)) ∧ (f y 2 = nI (σ 5 0) ∧ ∀ k, k < 192 → f (y + 2) k = nI (σ 4 k)) ∧ (f y 6 = nI (σ 5 1) ∧ ∀ i, i < σ 5 1 → f (y + 4) i = nI (σ 6 i)) ∧ (f y 7 = nI (σ 5 2) ∧ f y 28 = nI (σ 5 3)) ∧ (∀ k, k < 4 → (f (y + 14) k = if σ 7 k < 3 then nI (σ 7 k) else -4) ∧ (σ 7 k < 3 → f (y + 15) k = nI (σ 8 k))) ∧ (∀ i, i < 160 → f (y + 16) i = nI (σ 9 i)) ∧ NM f y
def WTo (μ : mM) (t : Nat) : Prop := WF10 μ t ∧ WF5 μ (t + 1) ∧ ∀ k, k < 4 → WF3 μ (t + 26 + 8 * k)
/-- how the class's objects hang together -/
def WC (μ : mM) (x t u : Nat) : Prop := WF11 μ x ∧ rv μ x 2 = some t ∧ rv μ (x + 3) 0 = some u ∧ ((t = x + 4 ∧ u = x + 62) ∨ (t = x + 62 ∧ u = x + 4)) ∧ WTo μ t ∧ WTo μ u ∧ WF9 μ (x + 1) ∧ WF4 μ (x + 3) ∧ (∀ k, k < 2 → WF5 μ (x + 204 + 24 * k)) ∧ WF5 μ (x + 123) ∧ WF1 μ (x + 147) ∧ (WF2 μ (x + 149) ∧ WF5 μ (x + 150)) ∧ (WF6 μ (x + 175) ∧ WF5 μ (x + 176)) ∧ WF8 μ (x + 200) ∧ WF0 μ (x + 201) ∧ ∀ k, k < 4 → WF7 μ (x + 252 + 2 * k)
section P45
variable {μ : mM} {f g : Nat → Nat → Int32} {x t u y : Nat} {σ : aS}
theorem WC.w11 (h : WC μ x t u) : WF11 μ x := h.1
theorem WC.rt (h : WC μ x t u) : rv μ x 2 = some t := h.2.1
theorem WC.ru (h : WC μ x t u) : rv μ (x + 3) 0 = some u := h.2.2.1
theorem WC.tu (h : WC μ x t u) : (t = x + 4 ∧ u = x + 62) ∨ (t = x + 62 ∧ u = x + 4) := h.2.2.2.1
theorem WC.wt (h : WC μ x t u) : WTo μ t := h.2.2.2.2.1
theorem WC.wu (h : WC μ x t u) : WTo μ u := h.2.2.2.2.2.1
theorem WC.w9 (h : WC μ x t u) : WF9 μ (x + 1) := h.2.2.2.2.2.2.1
theorem WC.w4 (h : WC μ x t u) : WF4 μ (x + 3) := h.2.2.2.2.2.2.2.1
theorem WC.wim (h : WC μ x t u) : ∀ k, k < 2 → WF5 μ (x + 204 + 24 * k) := h.2.2.2.2.2.2.2.2.1
theorem WC.wbf (h : WC μ x t u) : WF5 μ (x + 123) := h.2.2.2.2.2.2.2.2.2.1
theorem WC.w1 (h : WC μ x t u) : WF1 μ (x + 147) := h.2.2.2.2.2.2.2.2.2.2.1
theorem WC.w2 (h : WC μ x t u) : WF2 μ (x + 149) ∧ WF5 μ (x + 150) := h.2.2.2.2.2.2.2.2.2.2.2.1
theorem WC.w6 (h : WC μ x t u) : WF6 μ (x + 175) ∧ WF5 μ (x + 176) := h.2.2.2.2.2.2.2.2.2.2.2.2.1
theorem WC.w8 (h : WC μ x t u) : WF8 μ (x + 200) := h.2.2.2.2.2.2.2.2.2.2.2.2.2.1
theorem WC.w0 (h : WC μ x t u) : WF0 μ (x + 201) := h.2.2.2.2.2.2.2.2.2.2.2.2.2.2.1
theorem WC.w7 (h : WC μ x t u) : ∀ k, k < 4 → WF7 μ (x + 252 + 2 * k) := h.2.2.2.2.2.2.2.2.2.2.2.2.2.2.2
/-- what a call about the shape may change of the class -/
def FrC (f g : Nat → Nat → Int32) (x t : Nat) : Prop := ∀ z, ¬ (t + 1 ≤ z ∧ z < t + 25) → ¬ (x + 123 ≤ z ∧ z < x + 204) → ¬ (t + 26 ≤ z ∧ z < t + 58 ∧ 6 ≤ (z - (t + 26)) % 8) → ∀ j, g z j = f z j
/-- the same, of the class's places alone -/
def FrI (f g : Nat → Nat → Int32) (x t : Nat) : Prop := ∀ z, x ≤ z → z < x + 260 → ¬ (t + 1 ≤ z ∧ z < t + 25) → ¬ (x + 123 ≤ z ∧ z < x + 204) → ¬ (t + 26 ≤ z ∧ z < t + 58 ∧ 6 ≤ (z - (t + 26)) % 8) → ∀ j, g z j = f z j
theorem FrC.toI (h : FrC f g x t) : FrI f g x t := fun z _ _ a b c j => h z a b c j
def MFI (f g : Nat → Nat → Int32) (y : Nat) : Prop := (∀ z, y < z → z < y + 17 → z ≠ y + 1 → ¬ (y + 7 ≤ z ∧ z ≤ y + 11) → z ≠ y + 13 → ∀ j, g z j = f z j) ∧ (∀ k, 61 ≤ k → k < 183 → g (y + 1) k = f (y + 1) k) ∧ ∀ k, k ≠ 22 → g y k = f y k
theorem MF2.toI (h : MF2 f g y) : MFI f g y := ⟨fun z z0 _ a b c j => h.1 z (by omega) a b c j, h.2.1, h.2.2⟩
theorem FrC.rf (f : Nat → Nat → Int32) (x t : Nat) : FrC f f x t := fun _ _ _ _ _ => rfl
theorem FrC.tr {h : Nat → Nat → Int32} (h1 : FrC f g x t) (h2 : FrC g h x t) : FrC f h x t := fun z a b c j => (h2 z a b c j).trans (h1 z a b c j)
theorem FrC.out (h : FrC f g x t) (ht : t = x + 4 ∨ t = x + 62) : Fr f g x 260 := fun z hz j => h z (by omega) (by omega) (by omega) j
theorem SHT.fr {a k : Nat} (h : SHT f a σ k) (h0 : ∀ z, z = a ∨ z = a + 1 → ∀ j, g z j = f z j) : SHT g a σ k :=
  ⟨by rw [h0 a (Or.inl rfl)]; exact h.1, fun q => by rw [h0 a (Or.inl rfl), h0 a (Or.inl rfl)]; exact h.2.1 q, fun i hi => by rw [h0 _ (Or.inr rfl)]; exact h.2.2 i hi⟩
theorem CI.pg {q : Nat → Nat} (h : CI f x t σ) (hf : FrI f g x t) (ht : t = x + 4 ∨ t = x + 62) (hs : Sh g (t + 1) q) (h4 : σ 5 0 ≤ 4) : CI g x t (us σ 0 q) := by
  obtain ⟨_, h2, h3, h5, h6, h7⟩ := h
  refine ⟨hs, fun k hk => ⟨(h2 k hk).1.fr (fun z z1 z2 j => hf z (by omega) (by omega) (by omega) (by omega) (by omega) j) |> fun w => by rw [us_n (by omega)]; exact w, ?_⟩, ⟨?_, fun k hk => ?_⟩, ⟨?_, fun i hi => ?_⟩, ⟨?_, ?_⟩, fun k hk => ?_⟩
  · rw [us_n (by omega), hf _ (by omega) (by omega) (by omega) (by omega) (by omega)]; exact (h2 k hk).2
  · rw [us_n (by omega), hf _ (by omega) (by omega) (by omega) (by omega) (by omega)]; exact h3.1
  · rw [us_n (by omega)] at hk ⊢
    exact (h3.2 k hk).fr (fun z z1 z2 j => hf z (by omega) (by omega) (by omega) (by omega) (by omega) j)
  · rw [us_n (by omega), hf _ (by omega) (by omega) (by omega) (by omega) (by omega)]; exact h5.1
  · rw [us_n (by omega)] at hi
    rw [us_n (by omega), hf _ (by omega) (by omega) (by omega) (by omega) (by omega)]; exact h5.2 i hi
  · rw [us_n (by omega), hf _ (by omega) (by omega) (by omega) (by omega) (by omega)]; exact h6.1
  · rw [us_n (by omega), hf _ (by omega) (by omega) (by omega) (by omega) (by omega)]; exact h6.2
  · have := (h7 k hk).fr (g := g) (fun z hz j => hf z (by omega) (by omega) (by omega) (by omega) (by omega) j)
    unfold SHT at this ⊢
    rw [us_n (by omega), us_n (by omega), us_n (by omega)]
    exact this
theorem CI.sh (h : CI f x t σ) : Sh f (t + 1) (σ 0) := h.1
theorem us_0 (σ : aS) : us σ 0 (σ 0) = σ := by
  funext i
  unfold us
  split
  · rename_i h; rw [h]
  · rfl
theorem CI.same (h : CI f x t σ) (hf : FrI f g x t) (ht : t = x + 4 ∨ t = x + 62) (hs : Sh g (t + 1) (σ 0)) (h4 : σ 5 0 ≤ 4) : CI g x t σ := by
  have := h.pg hf ht hs h4
  rw [us_0] at this
  exact this
theorem MI.pg {q : Nat → Nat} (h : MI f y σ) (hf : MFI f g y) (hs : Pg0 g y q) : MI g y (us σ 0 q) := by
  obtain ⟨_, h2, h3, h5, h6, h7, h8, h9⟩ := h
  refine ⟨hs, fun k hk => ⟨fun i hi => ?_, ?_⟩, ⟨?_, fun k hk => ?_⟩, ⟨?_, fun i hi => ?_⟩, ⟨?_, ?_⟩, fun k hk => ⟨?_, fun q => ?_⟩, fun i hi => ?_, fun i hi => ?_, fun i hi => ?_⟩
  · rw [us_n (by omega), hf.2.1 _ (by omega) (by omega)]; exact (h2 k hk).1 i hi
  · rw [us_n (by omega), hf.1 _ (by omega) (by omega) (by omega) (by omega) (by omega)]; exact (h2 k hk).2
  · rw [us_n (by omega), hf.2.2 _ (by omega)]; exact h3.1
  · rw [us_n (by omega), hf.1 _ (by omega) (by omega) (by omega) (by omega) (by omega)]; exact h3.2 k hk
  · rw [us_n (by omega), hf.2.2 _ (by omega)]; exact h5.1
  · rw [us_n (by omega)] at hi
    rw [us_n (by omega), hf.1 _ (by omega) (by omega) (by omega) (by omega) (by omega)]; exact h5.2 i hi
  · rw [us_n (by omega), hf.2.2 _ (by omega)]; exact h6.1
  · rw [us_n (by omega), hf.2.2 _ (by omega)]; exact h6.2
  · rw [us_n (by omega), hf.1 _ (by omega) (by omega) (by omega) (by omega) (by omega)]; exact (h7 k hk).1
  · rw [us_n (by omega)] at q
    rw [us_n (by omega), hf.1 _ (by omega) (by omega) (by omega) (by omega) (by omega)]; exact (h7 k hk).2 q
  · rw [us_n (by omega), hf.1 _ (by omega) (by omega) (by omega) (by omega) (by omega)]; exact h8 i hi
  · rw [hf.1 _ (by omega) (by omega) (by omega) (by omega) (by omega)]; exact h9.1 i hi
  · rw [hf.1 _ (by omega) (by omega) (by omega) (by omega) (by omega)]; exact h9.2 i hi
theorem MI.same (h : MI f y σ) (hf : MFI f g y) (hs : Pg0 g y (σ 0)) : MI g y σ := by
  have := h.pg hf hs
  rw [us_0] at this
  exact this
theorem MF2.out (h : MF2 f g y) : Fr f g y 17 := fun z hz j => h.1 z (by omega) (by omega) (by omega) (by omega) j
/-- nothing but the one's places have changed: the other's tell the same -/
theorem CI.fr (h : CI f x t σ) (hf : Fr f g (x + 260) 17) (ht : t = x + 4 ∨ t = x + 62) (h4 : σ 5 0 ≤ 4) : CI g x t σ := h.same (fun z _ _ _ _ _ j => hf z (by omega) j) ht (h.1.fr (fun z _ _ j => hf z (by omega) j)) h4
theorem MI.fr (h : MI f (x + 260) σ) (hf : Fr f g x 260) : MI g (x + 260) σ := h.same ⟨fun z _ _ _ _ _ j => hf z (by omega) j, fun k _ _ => hf _ (by omega) k, fun k _ => hf _ (by omega) k⟩ (h.1.fr (fun k _ => hf _ (by omega) k))
end P45
