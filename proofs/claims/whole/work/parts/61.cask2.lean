section P61
variable {X : cX} {d : Nat} {μ : mM} {K : Option Value → mM → Prop} {f : Nat → Nat → Int32} {x t u n : Nat} {T : Nat → Nat} {s : pS}
theorem CFb_0 {a o : Nat} {F : Nat → Nat} (hz : ∀ k, o ≤ k → F k = 0) : CFb (u2 (u2 (u2 (u2 f a 0 0) a 3 0) a 7 0) a 8 0) a F o 0 := by
  have z := fun j => hz (o + j) (by omega)
  have e0 : F o = 0 := z 0
  refine ⟨⟨?_, ?_, ?_, fun p hp => by omega, fun i hi => by rw [z 2] at hi; omega⟩, ?_, fun p hp => by omega, fun l hl hn => absurd (hz _ (by omega)) hn⟩
  · rw [u2_k (by decide), u2_k (by decide), u2_k (by decide), u2_s, e0]; rfl
  · rw [u2_k (by decide), u2_k (by decide), u2_s, z 2]; rfl
  · rw [u2_s, z 3]; rfl
  · rw [u2_k (by decide), u2_s]; rfl
theorem c_takeAskL (hW : WC μ x t u) (h : CP f x u T n s) (hS : SI n s) (hE : ∀ g e, pAskL T n s = .error e → FU f g x u → ER g x e → K (some (.int 0)) (sI μ g)) (hO : ∀ g r, pAskL T n s = .ok r → FU f g x u → g (x + 3) 4 = f (x + 3) 4 → CP g x u T n r → K (some (.int 1)) (sI μ g)) : Ct X (Rm (d + 7)) mX4_takeAsk [.ref (x + 3), .ref (x + 1)] (sI μ f) K := by
  obtain ⟨h1, ⟨h2, h26⟩, h3, h4, h5⟩ := h
  have hu := hW.u2
  have w4 := hW.w4
  have w9 := hW.w9
  have m4 := h3.2.1
  have em : iv (sI μ f) u 2 = nI s.2.2.2.1 := h3.1
  have l4 : (iv (sI μ f) u 2 < (4 : Int32)) ↔ s.2.2.2.1 < 4 := by rw [em]; exact nI_ltI (b := 4) (by omega) (by decide)
  unfold pAskL at hE hO
  by_cases z : s.2.2.2.1 = 4
  · rw [if_pos z] at hE
    refine Ct_of rfl (Nat.le_of_ble_eq_true rfl) (b_X4_takeAsk_0 (p0 := u) (j0 := 0) (hw4_r0 := w4) (hr_p0 := hW.ru) (hw10_p0 := hW.wu.1) (hi_j0 := fun c => by rw [l4] at c; omega) (hb := fun _ => by decide) (hw3_p0268j0 := hW.wu.2.2 0 (by decide)) (hc_clear := fun c => by rw [l4] at c; omega) (hc_refuse := fun _ => ?_))
    exact c_refuse (c := 5) w4 w9 h1 (fun g r1 r2 => b_X4_takeAsk_17 (hE g _ rfl r1 r2) (Or.inl rfl))
  rw [if_neg z] at hE hO
  have m3 : s.2.2.2.1 < 4 := by omega
  have w3 := hW.wu.2.2 s.2.2.2.1 m3
  refine Ct_of rfl (Nat.le_of_ble_eq_true rfl) (b_X4_takeAsk_0 (p0 := u) (j0 := s.2.2.2.1) (hw4_r0 := w4) (hr_p0 := hW.ru) (hw10_p0 := hW.wu.1) (hi_j0 := fun _ => em) (hb := fun _ => m3) (hw3_p0268j0 := w3) (hc_clear := fun _ => ?_) (hc_refuse := fun c => absurd (l4.mpr m3) c))
  refine Ct_of rfl (Nat.le_of_ble_eq_true rfl) (b_X3_clear_0 w3 (b_X4_takeAsk_38 (p0 := u) w4 hW.ru hW.wu.1 w9 ?_))
  -- where the formula lies
  obtain ⟨a, ea⟩ : ∃ a, a = u + 26 + 8 * s.2.2.2.1 := ⟨_, rfl⟩
  obtain ⟨o, eo⟩ : ∃ o, o = 48 * s.2.2.2.1 := ⟨_, rfl⟩
  rw [← ea] at w3 ⊢
  rw [← eo] at hE hO
  have hz : ∀ k, o ≤ k → s.2.2.1 k = 0 := fun k hk => hS.2.2.2.2 k (by omega)
  rw [wi_sI, wi_sI, wi_sI, wi_sI, iv_sI, u2_x (a := a) (by omega), u2_x (a := a) (by omega), u2_x (a := a) (by omega), u2_x (a := a) (by omega), h3.1, nI_1, wi_sI]
  have cb0 : CFb (u2 (u2 (u2 (u2 (u2 f a 0 0) a 3 0) a 7 0) a 8 0) u 2 (nI (s.2.2.2.1 + 1))) a s.2.2.1 o 0 := (CFb_0 hz).fr (fun z z1 z2 j => u2_x (by omega))
  have ff0 : ∀ z, z ≠ u → ¬ (a ≤ z ∧ z < a + 8) → ∀ j, u2 (u2 (u2 (u2 (u2 f a 0 0) a 3 0) a 7 0) a 8 0) u 2 (nI (s.2.2.2.1 + 1)) z j = f z j := fun z p q j => by rw [u2_x p, u2_x (by omega), u2_x (by omega), u2_x (by omega), u2_x (by omega)]
  have e02 : u2 (u2 (u2 (u2 (u2 f a 0 0) a 3 0) a 7 0) a 8 0) u 2 (nI (s.2.2.2.1 + 1)) u 2 = nI (s.2.2.2.1 + 1) := u2_s _ _ _ _
  generalize u2 (u2 (u2 (u2 (u2 f a 0 0) a 3 0) a 7 0) a 8 0) u 2 (nI (s.2.2.2.1 + 1)) = f0 at cb0 ff0 e02 ⊢
  have fu0 : FU f f0 x u := fun z p q r j => ff0 z (by omega) (by omega) j
  have hua : u ≤ a := by omega
  have hua2 : a + 8 ≤ u + 58 := by omega
  have hxu : x + 3 < u := by omega
  have a0 : AT f0 x T n s.1 := h1.fr (fun z hz j => ff0 z (by omega) (by omega) j)
  refine c_adv w9 a0 (fun g1 n1 a1 => b_X4_takeAsk_55 ?_)
  -- the end
  have L147 : ∀ g (r3 : Nat × (Nat → Nat) × Nat), NF f0 g x a → AT g x T n r3.1 → CFb g a r3.2.1 o r3.2.2 → IV r3.2.1 o r3.2.2 → (∀ j, (j < o ∨ o + 48 ≤ j) → r3.2.1 j = s.2.2.1 j) → (∀ g' e, (if r3.2.2 = 1 then bnd (pSgn T n 3 r3.1) (fun q5 => (.ok (q5, s.2.1, r3.2.1, s.2.2.2.1 + 1, s.2.2.2.2) : oE pS)) else .error (4, tA T n r3.1)) = .error e → FU f g' x u → ER g' x e → K (some (.int 0)) (sI μ g')) → (∀ g' r, (if r3.2.2 = 1 then bnd (pSgn T n 3 r3.1) (fun q5 => (.ok (q5, s.2.1, r3.2.1, s.2.2.2.1 + 1, s.2.2.2.2) : oE pS)) else .error (4, tA T n r3.1)) = .ok r → FU f g' x u → g' (x + 3) 4 = f (x + 3) 4 → CP g' x u T n r → K (some (.int 1)) (sI μ g')) → G X (Rm (d + 7)) mX4_takeAsk 147 [(0, .ref (x + 3)), (1, .ref (x + 1)), (2, .ref a)] [] (sI μ g) 0 0 K := fun g r3 nf ag cb iv3 out hE hO => by
    have hl : r3.2.2 ≤ r3.2.1 (o + 2) := by have := hg_le r3.2.1 o (r3.2.1 (o + 2)); rw [iv3.2.2.2.2.1] at this; exact this
    have i3 := iv3.2.2.1
    have e7 : (iv (sI μ g) a 7 = (1 : Int32)) ↔ r3.2.2 = 1 := by rw [iv_sI, cb.2.1]; exact nI_eq (b := 1) (by omega) (by decide)
    have fu : FU f g x u := fu0.tr (nf.fu hua hua2)
    refine b_X4_takeAsk_147 (hw3_r2 := w3) (hw4_r0 := w4) (hc_refuse := fun c => ?_) (hc_takeSign := fun c => ?_)
    · rw [e7] at c
      rw [if_neg c] at hE
      exact c_refuse (c := 4) w4 w9 ag (fun g' r1 r2 => b_X4_takeAsk_171 (hE g' _ rfl (fu.tr r1) r2) (Or.inl rfl))
    · rw [e7] at c
      rw [if_pos c] at hE hO
      refine c_takeSign (k := 3) (u := u) w4 w9 ag (Or.inl rfl) (fun g' e' d1 d2 d3 => b_X4_takeAsk_162 (b_X4_takeAsk_171 (hE g' e' (bnd_e d1) (fu.tr d2) d3) (Or.inl rfl))) (fun g' r d1 d2 d3 => b_X4_takeAsk_162 (b_X4_takeAsk_171 (hO g' _ (bnd_o d1) (fu.tr d2.fu) ?_ ⟨d3, ⟨?_, h26⟩, ⟨?_, ?_, fun k hk => ?_⟩, ⟨?_, h4.2⟩, ?_⟩) (Or.inr rfl)))
      · rw [d2.1 _ (by omega), nf _ (by omega) (by omega), ff0 _ (by omega) (by omega)]
      · exact h2.fr (fun z z1 z2 j => by rw [d2.1 _ (by omega), nf _ (by omega) (by omega), ff0 _ (by omega) (by omega)])
      · rw [d2.1 _ (by omega), nf _ (by omega) (by omega)]; exact e02
      · show s.2.2.2.1 + 1 ≤ 4
        omega
      · have hk : k < s.2.2.2.1 + 1 := hk
        by_cases ck : k = s.2.2.2.1
        · rw [ck, ← ea, ← eo]
          exact cb.1.fr (fun z z1 z2 j => d2.1 z (by omega) j)
        · have okf := hS.2.2.2.1 k (by omega)
          exact ((h3.2.2 k (by omega)).cg okf.1.2.2.1 (fun j j1 j2 => out j (by omega))).fr (fun z z1 z2 j => by rw [d2.1 _ (by omega), nf _ (by omega) (by omega), ff0 _ (by omega) (by omega)])
      · rw [d2.1 _ (by omega), nf _ (by omega) (by omega), ff0 _ (by omega) (by omega)]; exact h4.1
      · rw [d2.1 _ (by omega), nf _ (by omega) (by omega), ff0 _ (by omega) (by omega)]; exact h5
  -- the items behind the first
  have L111 : ∀ (m k : Nat), 1 ≤ k → k + m = 13 → ∀ g q F h, NF f0 g x a → AT g x T n q → CFb g a F o h → IV F o h → (∀ g' e, pIts T n o m q F h = .error e → FU f g' x u → ER g' x e → K (some (.int 0)) (sI μ g')) → (∀ g' r, pIts T n o m q F h = .ok r → NF f0 g' x a → AT g' x T n r.1 → CFb g' a r.2.1 o r.2.2 → G X (Rm (d + 7)) mX4_takeAsk 147 [(0, .ref (x + 3)), (1, .ref (x + 1)), (2, .ref a)] [] (sI μ g') 0 0 K) → G X (Rm (d + 7)) mX4_takeAsk 111 [(0, .ref (x + 3)), (1, .ref (x + 1)), (2, .ref a), (3, .int (nI k))] [] (sI μ g) 0 0 K := by
    intro m
    induction m with
    | zero =>
      intro k k1 hk g q F h nf ag cb iv3 hE hO
      have lt : (12 : Int32) < nI k := nI_lt (a := 12) (by omega) (by omega)
      exact b_X4_takeAsk_111 (h := fun _ => hO g _ rfl nf ag cb) (h_2 := fun c => absurd lt c) (hw9_r1 := w9) (hc_isSign := fun c => absurd lt c)
    | succ m ih =>
      intro k k1 hk g q F h nf ag cb iv3 hE hO
      rw [pIts_s] at hE hO
      have nlt : ¬ (12 : Int32) < nI k := nI_nlt (a := 12) (by omega) (by decide)
      have nz : ¬ nI k = 0 := nI_ne0 (by omega) (by omega)
      refine b_X4_takeAsk_111 (h := fun c => absurd c nlt) (h_2 := fun _ c => absurd c nz) (hw9_r1 := w9) (hc_isSign := fun _ _ => ?_)
      refine c_isSign (k := 3) w9 ag.1 ag.2.1 ag.2.2 (Or.inl rfl) ?_
      by_cases c3 : tK T n q = 3
      · rw [if_pos c3]
        rw [if_pos c3] at hO
        exact b_X4_takeAsk_127 (h := fun _ => hO g _ rfl nf ag cb) (h_2 := fun c => absurd c (by decide))
      · rw [if_neg c3]
        rw [if_neg c3] at hE hO
        refine b_X4_takeAsk_127 (h := fun c => absurd rfl c) (h_2 := fun _ => b_X4_takeAsk_130 w4 ?_)
        refine c_takeItem (u := u) w4 w9 w3 hxu hua hua2 ag cb iv3 (fun g' e d1 d2 d3 => ?_) (fun g' r d1 d2 d3 d4 => ?_)
        · exact b_X4_takeAsk_136 (h := fun c => absurd rfl c) (hK := fun _ => hE g' e (bnd_e d1) ((fu0.tr (nf.fu hua hua2)).tr d2) d3)
        · rw [bnd_o d1] at hE hO
          refine b_X4_takeAsk_136 (h := fun _ => ih (k + 1) (by omega) (by omega) g' r.1 r.2.1 r.2.2 (nf.tr d2) d3 d4 (pItem_ok ag.2.1 iv3 d1).1 hE hO) (hK := fun c => absurd c (by decide))
  -- behind the letters
  have L97 : ∀ g (r1 : Nat × (Nat → Nat)), NF f0 g x a → AT g x T n r1.1 → CFb g a r1.2 o 0 → IV r1.2 o 0 → (∀ j, (j < o ∨ o + 48 ≤ j) → r1.2 j = s.2.2.1 j) → (∀ g' e, bnd (pSgn T n 4 r1.1) (fun q3 => bnd (pItem T n o q3 r1.2 0) (fun r2 => bnd (pIts T n o 12 r2.1 r2.2.1 r2.2.2) (fun r3 => if r3.2.2 = 1 then bnd (pSgn T n 3 r3.1) (fun q5 => (.ok (q5, s.2.1, r3.2.1, s.2.2.2.1 + 1, s.2.2.2.2) : oE pS)) else .error (4, tA T n r3.1)))) = .error e → FU f g' x u → ER g' x e → K (some (.int 0)) (sI μ g')) → (∀ g' r, bnd (pSgn T n 4 r1.1) (fun q3 => bnd (pItem T n o q3 r1.2 0) (fun r2 => bnd (pIts T n o 12 r2.1 r2.2.1 r2.2.2) (fun r3 => if r3.2.2 = 1 then bnd (pSgn T n 3 r3.1) (fun q5 => (.ok (q5, s.2.1, r3.2.1, s.2.2.2.1 + 1, s.2.2.2.2) : oE pS)) else .error (4, tA T n r3.1)))) = .ok r → FU f g' x u → g' (x + 3) 4 = f (x + 3) 4 → CP g' x u T n r → K (some (.int 1)) (sI μ g')) → G X (Rm (d + 7)) mX4_takeAsk 97 [(0, .ref (x + 3)), (1, .ref (x + 1)), (2, .ref a)] [] (sI μ g) 0 0 K := fun g r1 nf ag cb iv1 out hE hO => by
    refine b_X4_takeAsk_97 w4 (c_takeSign (k := 4) (u := u) w4 w9 ag (Or.inr rfl) (fun g' e' d1 d2 d3 => ?_) (fun g2 q3 d1 d2 d3 => ?_))
    · exact b_X4_takeAsk_104 (h := fun c => absurd rfl c) (hK := fun _ => hE g' e' (bnd_e d1) ((fu0.tr (nf.fu hua hua2)).tr d2) d3)
    rw [bnd_o d1] at hE hO
    have nf2 : NF f0 g2 x a := nf.tr d2.nf
    have cb2 : CFb g2 a r1.2 o 0 := cb.fr (fun z z1 z2 j => d2.1 z (by omega) j)
    refine b_X4_takeAsk_104 (h := fun _ => ?_) (hK := fun c => absurd c (by decide))
    refine b_X4_takeAsk_111 (h := fun c => absurd c (by decide)) (h_2 := fun _ _ => b_X4_takeAsk_130 w4 ?_) (hw9_r1 := w9) (hc_isSign := fun _ c => absurd rfl c)
    refine c_takeItem (u := u) w4 w9 w3 hxu hua hua2 d3 cb2 iv1 (fun g' e e1 e2 e3 => ?_) (fun g3 r2 e1 e2 e3 e4 => ?_)
    · exact b_X4_takeAsk_136 (h := fun c => absurd rfl c) (hK := fun _ => hE g' e (bnd_e e1) ((fu0.tr (nf2.fu hua hua2)).tr e2) e3)
    rw [bnd_o e1] at hE hO
    have p2 := pItem_ok d3.2.1 iv1 e1
    refine b_X4_takeAsk_136 (h := fun _ => L111 12 1 (by decide) (by decide) g3 r2.1 r2.2.1 r2.2.2 (nf2.tr e2) e3 e4 p2.1 (fun g' e i1 i2 i3 => hE g' e (bnd_e i1) i2 i3) (fun g4 r3 i1 i2 i3 i4 => ?_)) (hK := fun c => absurd c (by decide))
    rw [bnd_o i1] at hE hO
    have p3 := pIts_ok 12 _ _ _ r3 e3.2.1 p2.1 i1
    exact L147 g4 r3 i2 i3 i4 p3.1 (fun j hj => ((p3.2.2.2 j hj).trans (p2.2.2.2.1 j hj)).trans (out j hj)) hE hO
  -- the letters
  have L57 : ∀ (m k : Nat), k + m = 4 → ∀ g q F, NF f0 g x a → AT g x T n q → CFb g a F o 0 → IV F o 0 → F (o + 2) = 0 → (∀ g' e, pLets T n o m q F = .error e → FU f g' x u → ER g' x e → K (some (.int 0)) (sI μ g')) → (∀ g' r, pLets T n o m q F = .ok r → NF f0 g' x a → AT g' x T n r.1 → CFb g' a r.2 o 0 → G X (Rm (d + 7)) mX4_takeAsk 97 [(0, .ref (x + 3)), (1, .ref (x + 1)), (2, .ref a)] [] (sI μ g') 0 0 K) → G X (Rm (d + 7)) mX4_takeAsk 57 [(0, .ref (x + 3)), (1, .ref (x + 1)), (2, .ref a), (3, .int (nI k))] [] (sI μ g) 0 0 K := by
    intro m
    induction m with
    | zero =>
      intro k hk g q F nf ag cb iv1 z2 hE hO
      have lt : (3 : Int32) < nI k := nI_lt (a := 3) (by omega) (by omega)
      exact b_X4_takeAsk_57 (h := fun _ => hO g _ rfl nf ag cb) (hw9_r1 := w9) (hc_isName := fun c => absurd lt c)
    | succ m ih =>
      intro k hk g q F nf ag cb iv1 z2 hE hO
      rw [pLets_s] at hE hO
      have nlt : ¬ (3 : Int32) < nI k := nI_nlt (a := 3) (by omega) (by decide)
      have YES : (nmW T n q = 11 ∨ nmW T n q = 12) → G X (Rm (d + 7)) mX4_takeAsk 80 [(0, .ref (x + 3)), (1, .ref (x + 1)), (2, .ref a), (3, .int (nI k))] [] (sI μ g) 0 0 K := fun c => by
        rw [if_pos c] at hE hO
        refine b_X4_takeAsk_80 w4 (c_tellLetter (d := d + 1) (u := u) w4 w9 w3 hxu hua hua2 ag cb iv1 z2 (fun g' e d1 d2 d3 => ?_) (fun g' r d1 d2 d3 d4 => ?_))
        · exact b_X4_takeAsk_86 (h := fun c => absurd rfl c) (hK := fun _ => hE g' e (bnd_e d1) ((fu0.tr (nf.fu hua hua2)).tr d2) d3)
        · rw [bnd_o d1] at hE hO
          have p1 := pLet_ok (tB_b (T := T) ag.2.1).2 iv1 z2 (by split <;> decide) d1
          exact b_X4_takeAsk_86 (h := fun _ => ih (k + 1) (by omega) g' r.1 r.2 (nf.tr d2) d3 d4 p1.1 p1.2.1 hE hO) (hK := fun c => absurd c (by decide))
      refine b_X4_takeAsk_57 (h := fun c => absurd c nlt) (hw9_r1 := w9) (hc_isName := fun _ => c_isName (d := d + 2) (i := 6) w9 ag.1 ag.2.1 ag.2.2 (by decide) ?_)
      by_cases c11 : nmW T n q = sW 6
      · rw [if_pos c11]
        exact b_X4_takeAsk_68 (h := fun _ => YES (Or.inl c11)) (hw9_r1 := w9) (hc_isName := fun c => absurd c (by decide))
      · rw [if_neg c11]
        refine b_X4_takeAsk_68 (h := fun c => absurd rfl c) (hw9_r1 := w9) (hc_isName := fun _ => c_isName (d := d + 2) (i := 7) w9 ag.1 ag.2.1 ag.2.2 (by decide) ?_)
        by_cases c12 : nmW T n q = sW 7
        · rw [if_pos c12]
          exact b_X4_takeAsk_77 (h := fun c => absurd c (by decide)) (h_2 := fun _ => YES (Or.inr c12))
        · rw [if_neg c12]
          have c : ¬ (nmW T n q = 11 ∨ nmW T n q = 12) := fun c => c.elim (fun c => c11 c) (fun c => c12 c)
          rw [if_neg c] at hO
          exact b_X4_takeAsk_77 (h := fun _ => hO g _ rfl nf ag cb) (h_2 := fun c => absurd rfl c)
  have i0 : IV s.2.2.1 o 0 := IV_0 hz
  refine L57 4 0 (by decide) g1 (tB T n s.1) s.2.2.1 n1.nf a1 (cb0.fr (fun z z1 z2 j => n1.1 z (by omega) j)) i0 (hz _ (by omega)) (fun g' e d1 d2 d3 => hE g' e (bnd_e d1) d2 d3) (fun g' r1 d1 d2 d3 d4 => ?_)
  rw [bnd_o d1] at hE hO
  have p1 := pLets_ok 4 _ _ r1 a1.2.1 i0 (hz _ (by omega)) d1
  exact L97 g' r1 d2 d3 d4 p1.1 p1.2.2.2.2 hE hO
end P61
