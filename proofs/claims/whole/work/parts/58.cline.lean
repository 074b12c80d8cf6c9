section P58
variable {X : cX} {d : Nat} {μ : mM} {K : Option Value → mM → Prop} {f g : Nat → Nat → Int32} {x t u q n : Nat} {T : Nat → Nat} {s : pS}
theorem AT.fr (h : AT f x T n q) (h0 : ∀ z, z = x + 1 ∨ z = x + 2 → ∀ j, g z j = f z j) : AT g x T n q := by
  obtain ⟨⟨a1, a2, a3, a4⟩, b, c1, c2, c3⟩ := h
  exact ⟨⟨a1, a2, by rw [h0 _ (Or.inl rfl)]; exact a3, fun i hi => by rw [h0 _ (Or.inr rfl)]; exact a4 i hi⟩, b, by rw [h0 _ (Or.inl rfl)]; exact c1, by rw [h0 _ (Or.inl rfl)]; exact c2, by rw [h0 _ (Or.inl rfl)]; exact c3⟩
/-- the formulas that were told -/
def FF (f : Nat → Nat → Int32) (u : Nat) (F : Nat → Nat) (m : Nat) : Prop := f u 2 = nI m ∧ m ≤ 4 ∧ ∀ k, k < m → CFm f (u + 26 + 8 * k) F (48 * k)
/-- the class's reader in the middle of a text -/
def CP (f : Nat → Nat → Int32) (x u : Nat) (T : Nat → Nat) (n : Nat) (s : pS) : Prop := AT f x T n s.1 ∧ (Sh f (u + 1) s.2.1 ∧ s.2.1 60 ≤ 6) ∧ FF f u s.2.2.1 s.2.2.2.1 ∧ (f (x + 3) 1 = nI s.2.2.2.2 - 1 ∧ s.2.2.2.2 ≤ 6) ∧ f (x + 3) 2 = 0
theorem FF.fr {F : Nat → Nat} {m : Nat} (h : FF f u F m) (h0 : g u 2 = f u 2) (h1 : ∀ z, u + 26 ≤ z → z < u + 58 → ∀ j, g z j = f z j) : FF g u F m := ⟨by rw [h0]; exact h.1, h.2.1, fun k hk => by have := h.2.1; exact (h.2.2 k hk).fr (fun z a b j => h1 z (by omega) (by omega) j)⟩
theorem WC.u2 (h : WC μ x t u) : u = x + 4 ∨ u = x + 62 := by
  have := h.tu
  omega
theorem full5r {a : Nat} {p : Nat → Nat} (h : f a 0 = nI (p 60)) (h6 : p 60 ≤ 6) : e_X5_isFull (sI μ f) a = 0 ↔ p 60 < 6 := by
  unfold e_X5_isFull
  have e : (iv (sI μ f) a 0 < (6 : Int32)) ↔ p 60 < 6 := by rw [iv_sI, h]; exact nI_ltI (b := 6) (by omega) (by decide)
  by_cases z : p 60 < 6
  · rw [if_pos (e.mpr z)]; exact ⟨fun _ => z, fun _ => rfl⟩
  · rw [if_neg (fun w => z (e.mp w))]; exact ⟨fun w => absurd w (by decide), fun w => absurd w z⟩
theorem c_takeNodeL {m : Nat} (hW : WC μ x t u) (h : CP f x u T n s) (hm : m ≤ 1) (hE : ∀ g e, pNodeL T n m s = .error e → FU f g x u → ER g x e → K (some (.int 0)) (sI μ g)) (hO : ∀ g r, pNodeL T n m s = .ok r → FU f g x u → g (x + 3) 4 = f (x + 3) 4 → CP g x u T n r → K (some (.int 1)) (sI μ g)) : Ct X (Rm (d + 2)) mX4_takeNode [.ref (x + 3), .ref (x + 1), .int (nI m)] (sI μ f) K := by
  obtain ⟨h1, ⟨h2, h26⟩, h3, h4, h5⟩ := h
  have hu := hW.u2
  have fl := full5r (μ := μ) h2.1 h26
  refine Ct_of rfl (Nat.le_of_ble_eq_true rfl) (b_X4_takeNode_0 (p0 := u) (hw4_r0 := hW.w4) (hr_p0 := hW.ru) (hw10_p0 := hW.wu.1) (hw5_p01 := hW.wu.2.1) (hc_append := fun c => ?_) (hc_refuse := fun c => ?_))
  · have z := fl.mp c
    have e : pNodeL T n m s = bnd (pSgn T n 3 (tB T n s.1)) (fun q => .ok (q, app s.2.1 m, s.2.2)) := if_neg (by omega)
    rw [e] at hE hO
    refine c_append hW.wu.2.1 h2.1 z hm (b_X4_takeNode_31 hW.w9 ?_)
    have s1 := Sh_app (m := m) h2 z
    have a1 : AT (u2 (u2 f (u + 1 + 1) (s.2.1 60) (nI m)) (u + 1) 0 (nI (s.2.1 60 + 1))) x T n s.1 := h1.fr (fun z hz j => by rw [u2_x (by omega), u2_x (by omega)])
    refine c_adv hW.w9 a1 (fun g r1 r2 => b_X4_takeNode_35 hW.w4 ?_)
    have gf : ∀ z, z ≠ x + 1 → z ≠ u + 1 → z ≠ u + 2 → ∀ j, g z j = f z j := fun z a b c j => by rw [r1.1 z a, u2_x b, u2_x (by omega)]
    have fu : FU f g x u := fun z a b c j => gf z a (by omega) (by omega) j
    refine c_takeSign (k := 3) (u := u) hW.w4 hW.w9 r2 (Or.inl rfl) (fun g2 e' d1 d2 d3 => b_X4_takeNode_42 (hE g2 e' (bnd_e d1) (fu.tr d2) d3) (Or.inl rfl)) (fun g2 r d1 d2 d3 => b_X4_takeNode_42 (hO g2 _ (bnd_o d1) (fu.tr d2.fu) ?_ ⟨d3, ⟨?_, ?_⟩, ?_, ⟨?_, h4.2⟩, ?_⟩) (Or.inr rfl))
    · rw [d2.1 _ (by omega), gf _ (by omega) (by omega) (by omega)]
    · exact (s1.fr (fun z z1 z2 j => r1.1 z (by omega) j)).fr (fun z z1 z2 j => d2.1 z (by omega) j)
    · show app s.2.1 m 60 ≤ 6
      rw [app_60]; omega
    · exact h3.fr (by rw [d2.1 _ (by omega), gf _ (by omega) (by omega) (by omega)]) (fun z z1 z2 j => by rw [d2.1 _ (by omega), gf _ (by omega) (by omega) (by omega)])
    · rw [d2.1 _ (by omega), gf _ (by omega) (by omega) (by omega)]; exact h4.1
    · rw [d2.1 _ (by omega), gf _ (by omega) (by omega) (by omega)]; exact h5
  · have e : pNodeL T n m s = .error (5, tA T n s.1) := if_pos (by rw [fl] at c; omega)
    exact c_refuse (c := 5) hW.w4 hW.w9 h1 (fun g r1 r2 => b_X4_takeNode_19 (hE g _ e r1 r2) (Or.inl rfl))
theorem c_takeAtL (hW : WC μ x t u) (h : CP f x u T n s) (hE : ∀ g e, pAtL T n s = .error e → FU f g x u → ER g x e → K (some (.int 0)) (sI μ g)) (hO : ∀ g r, pAtL T n s = .ok r → FU f g x u → g (x + 3) 4 = f (x + 3) 4 → CP g x u T n r → K (some (.int 1)) (sI μ g)) : Ct X (Rm (d + 6)) mX4_takeAt [.ref (x + 3), .ref (x + 1)] (sI μ f) K := by
  obtain ⟨h1, ⟨h2, h26⟩, h3, h4, h5⟩ := h
  have hu := hW.u2
  unfold pAtL at hE hO
  refine Ct_of rfl (Nat.le_of_ble_eq_true rfl) (b_X4_takeAt_0 hW.w9 (c_adv hW.w9 h1 (fun g1 n1 a1 => b_X4_takeAt_4 hW.w4 ?_)))
  refine c_takeVar (u := u) hW.w4 hW.w9 a1 (fun g e d1 d2 d3 => ?_) (fun g2 v d1 dv n2 a2 => ?_)
  · exact b_X4_takeAt_9 (hw4_r0 := hW.w4) (hc_takeNodeNumber := fun c => absurd c (by decide)) (hK := fun _ => hE g e (bnd_e d1) (n1.fu.tr d2) d3)
  rw [bnd_o d1] at hE hO
  refine b_X4_takeAt_9 (hw4_r0 := hW.w4) (hc_takeNodeNumber := fun _ => ?_) (hK := fun c => absurd (nI_pos' (by omega)) c)
  have g2f : ∀ z, z ≠ x + 1 → ∀ j, g2 z j = f z j := fun z a j => by rw [n2.1 z a, n1.1 z a]
  refine c_takeNod (u := u) hW.w4 hW.w9 a2 (by rw [g2f _ (by omega)]; exact h4.1) h4.2 (fun g e d1 d2 d3 => ?_) (fun g3 i d1 di n3 a3 => ?_)
  · exact b_X4_takeAt_21 (p0 := u) (j0 := v.1) (hw4_r0 := hW.w4) (hr_p0 := hW.ru) (hw10_p0 := hW.wu.1) (hw5_p01 := hW.wu.2.1) (hi_j0 := fun c => absurd c (by decide)) (hb := fun _ => dv) (hc_takeTruth := fun c => absurd c (by decide)) (hK := fun _ => hE g e (bnd_e d1) ((n1.fu.tr n2.fu).tr d2) d3)
  rw [bnd_o d1] at hE hO
  refine b_X4_takeAt_21 (p0 := u) (j0 := v.1) (hw4_r0 := hW.w4) (hr_p0 := hW.ru) (hw10_p0 := hW.wu.1) (hw5_p01 := hW.wu.2.1) (hi_j0 := fun _ => rfl) (hb := fun _ => dv) (hc_takeTruth := fun _ => ?_) (hK := fun c => absurd (nI_pos' (by omega)) c)
  refine c_takeTru hW.w9 a3 (fun g4 n4 a4 => ?_)
  refine b_X4_takeAt_45 (n0 := 6) (j0 := i.1) (hk_q0 := w5_q2 hW.wu.2.1 v.1 dv) (hi_j0 := rfl) (hb := di) (hw4_r0 := hW.w4) (hc_takeSign := ?_)
  rw [wi_sI]
  have a5 : AT (u2 g4 (u + 1 + 3 + v.1) i.1 (nI (pTru T n i.2).1)) x T n (pTru T n i.2).2 := a4.fr (fun z hz j => u2_x (by omega))
  have g4f : ∀ z, z ≠ x + 1 → z ≠ x + 3 → ∀ j, g4 z j = f z j := fun z a b j => by rw [n4.1 z a, n3.1 z a b, g2f z a]
  have fu : FU f (u2 g4 (u + 1 + 3 + v.1) i.1 (nI (pTru T n i.2).1)) x u := fun z a b c j => by rw [u2_x (by omega)]; exact g4f z a b j
  have g43 : ∀ j, j ≠ 1 → g4 (x + 3) j = f (x + 3) j := fun j hj => by rw [n4.1 _ (by omega), n3.2.1 j hj, g2f _ (by omega)]
  refine c_takeSign (k := 3) (u := u) hW.w4 hW.w9 a5 (Or.inl rfl) (fun g5 e' d1 d2 d3 => b_X4_takeAt_53 (hE g5 e' (bnd_e d1) (fu.tr d2) d3) (Or.inl rfl)) (fun g5 r d1 d2 d3 => b_X4_takeAt_53 (hO g5 _ (bnd_o d1) (fu.tr d2.fu) ?_ ⟨d3, ⟨?_, ?_⟩, ?_, ⟨?_, ?_⟩, ?_⟩) (Or.inr rfl))
  · rw [d2.1 _ (by omega), u2_x (by omega), g43 4 (by decide)]
  · exact (Sh.uA (h2.fr (g := g4) (fun z z1 z2 j => g4f z (by omega) (by omega) j)) dv di).fr (fun z z1 z2 j => d2.1 z (by omega) j)
  · show upd1 s.2.1 (6 + 6 * v.1 + i.1) (pTru T n i.2).1 60 ≤ 6
    rw [upd1_n (by omega)]; exact h26
  · exact h3.fr (by rw [d2.1 _ (by omega), u2_x (by omega), g4f _ (by omega) (by omega)]) (fun z z1 z2 j => by rw [d2.1 _ (by omega), u2_x (by omega), g4f _ (by omega) (by omega)])
  · rw [d2.1 _ (by omega), u2_x (by omega), n4.1 _ (by omega)]; exact n3.2.2
  · have := h4.2
    show max s.2.2.2.2 (i.1 + 1) ≤ 6
    omega
  · rw [d2.1 _ (by omega), u2_x (by omega), g43 2 (by decide)]; exact h5
theorem c_takeNextL (hW : WC μ x t u) (h : CP f x u T n s) (hE : ∀ g e, pNextL T n s = .error e → FU f g x u → ER g x e → K (some (.int 0)) (sI μ g)) (hO : ∀ g r, pNextL T n s = .ok r → FU f g x u → g (x + 3) 4 = f (x + 3) 4 → CP g x u T n r → K (some (.int 1)) (sI μ g)) : Ct X (Rm (d + 6)) mX4_takeNext [.ref (x + 3), .ref (x + 1)] (sI μ f) K := by
  obtain ⟨h1, ⟨h2, h26⟩, h3, h4, h5⟩ := h
  have hu := hW.u2
  unfold pNextL at hE hO
  refine Ct_of rfl (Nat.le_of_ble_eq_true rfl) (b_X4_takeNext_0 hW.w9 (c_adv hW.w9 h1 (fun g1 n1 a1 => b_X4_takeNext_4 hW.w4 ?_)))
  refine c_takeNod (u := u) hW.w4 hW.w9 a1 (by rw [n1.1 _ (by omega)]; exact h4.1) h4.2 (fun g e d1 d2 d3 => ?_) (fun g2 v d1 dv n2 a2 => ?_)
  · exact b_X4_takeNext_9 (hw4_r0 := hW.w4) (hc_takeNodeNumber := fun c => absurd c (by decide)) (hK := fun _ => hE g e (bnd_e d1) (n1.fu.tr d2) d3)
  rw [bnd_o d1] at hE hO
  have m2 : max s.2.2.2.2 (v.1 + 1) ≤ 6 := by have := h4.2; omega
  refine b_X4_takeNext_9 (hw4_r0 := hW.w4) (hc_takeNodeNumber := fun _ => ?_) (hK := fun c => absurd (nI_pos' (by omega)) c)
  refine c_takeNod (u := u) hW.w4 hW.w9 a2 n2.2.2 m2 (fun g e d1 d2 d3 => ?_) (fun g3 i d1 di n3 a3 => ?_)
  · exact b_X4_takeNext_21 (p0 := u) (j0 := v.1) (hw4_r0 := hW.w4) (hr_p0 := hW.ru) (hw10_p0 := hW.wu.1) (hw5_p01 := hW.wu.2.1) (hi_j0 := fun c => absurd c (by decide)) (hb := fun _ => dv) (hc_takeTruth := fun c => absurd c (by decide)) (hK := fun _ => hE g e (bnd_e d1) ((n1.fu.tr n2.fu).tr d2) d3)
  rw [bnd_o d1] at hE hO
  refine b_X4_takeNext_21 (p0 := u) (j0 := v.1) (hw4_r0 := hW.w4) (hr_p0 := hW.ru) (hw10_p0 := hW.wu.1) (hw5_p01 := hW.wu.2.1) (hi_j0 := fun _ => rfl) (hb := fun _ => dv) (hc_takeTruth := fun _ => ?_) (hK := fun c => absurd (nI_pos' (by omega)) c)
  refine c_takeTru hW.w9 a3 (fun g4 n4 a4 => ?_)
  refine b_X4_takeNext_45 (n0 := 6) (j0 := i.1) (hk_q0 := w5_q3 hW.wu.2.1 v.1 dv) (hi_j0 := rfl) (hb := di) (hw4_r0 := hW.w4) (hc_takeSign := ?_)
  rw [wi_sI]
  have a5 : AT (u2 g4 (u + 1 + 7 + v.1) i.1 (nI (pTru T n i.2).1)) x T n (pTru T n i.2).2 := a4.fr (fun z hz j => u2_x (by omega))
  have g4f : ∀ z, z ≠ x + 1 → z ≠ x + 3 → ∀ j, g4 z j = f z j := fun z a b j => by rw [n4.1 z a, n3.1 z a b, n2.1 z a b, n1.1 z a]
  have fu : FU f (u2 g4 (u + 1 + 7 + v.1) i.1 (nI (pTru T n i.2).1)) x u := fun z a b c j => by rw [u2_x (by omega)]; exact g4f z a b j
  have g43 : ∀ j, j ≠ 1 → g4 (x + 3) j = f (x + 3) j := fun j hj => by rw [n4.1 _ (by omega), n3.2.1 j hj, n2.2.1 j hj, n1.1 _ (by omega)]
  refine c_takeSign (k := 3) (u := u) hW.w4 hW.w9 a5 (Or.inl rfl) (fun g5 e' d1 d2 d3 => b_X4_takeNext_53 (hE g5 e' (bnd_e d1) (fu.tr d2) d3) (Or.inl rfl)) (fun g5 r d1 d2 d3 => b_X4_takeNext_53 (hO g5 _ (bnd_o d1) (fu.tr d2.fu) ?_ ⟨d3, ⟨?_, ?_⟩, ?_, ⟨?_, ?_⟩, ?_⟩) (Or.inr rfl))
  · rw [d2.1 _ (by omega), u2_x (by omega), g43 4 (by decide)]
  · exact (Sh.uN (h2.fr (g := g4) (fun z z1 z2 j => g4f z (by omega) (by omega) j)) dv di).fr (fun z z1 z2 j => d2.1 z (by omega) j)
  · show upd1 s.2.1 (24 + 6 * v.1 + i.1) (pTru T n i.2).1 60 ≤ 6
    rw [upd1_n (by omega)]; exact h26
  · exact h3.fr (by rw [d2.1 _ (by omega), u2_x (by omega), g4f _ (by omega) (by omega)]) (fun z z1 z2 j => by rw [d2.1 _ (by omega), u2_x (by omega), g4f _ (by omega) (by omega)])
  · rw [d2.1 _ (by omega), u2_x (by omega), n4.1 _ (by omega)]; exact n3.2.2
  · show max (max s.2.2.2.2 (v.1 + 1)) (i.1 + 1) ≤ 6
    omega
  · rw [d2.1 _ (by omega), u2_x (by omega), g43 2 (by decide)]; exact h5
end P58
