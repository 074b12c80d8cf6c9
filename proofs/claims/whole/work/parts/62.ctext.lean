section P62
variable {X : cX} {d : Nat} {μ : mM} {K : Option Value → mM → Prop} {f : Nat → Nat → Int32} {x t u n : Nat} {T : Nat → Nat} {s : pS}
theorem c_takeLineL (hW : WC μ x t u) (h : CP f x u T n s) (hS : SI n s) (hE : ∀ g e, pLine T n s = .error e → FU f g x u → ER g x e → K (some (.int 0)) (sI μ g)) (hO : ∀ g r, pLine T n s = .ok r → FU f g x u → g (x + 3) 4 = f (x + 3) 4 → CP g x u T n r → K (some (.int 1)) (sI μ g)) : Ct X (Rm (d + 8)) mX4_takeLine [.ref (x + 3), .ref (x + 1)] (sI μ f) K := by
  have w4 := hW.w4
  have w9 := hW.w9
  have h1 := h.1
  have N : ∀ {i : Nat} {K' : Option Value → mM → Prop}, i < 13 → (nmW T n s.1 = sW i → K' (some (.int (nI 1))) (sI μ f)) → (nmW T n s.1 ≠ sW i → K' (some (.int (nI 0))) (sI μ f)) → Ct X (Rm (d + 7)) mX9_isName [.ref (x + 1), .ref (X.2.2.2.2.1 i)] (sI μ f) K' := fun {i K'} hi y1 y2 => by
    refine c_isName (d := d + 3) w9 h1.1 h1.2.1 h1.2.2 hi ?_
    by_cases z : nmW T n s.1 = sW i
    · rw [if_pos z]; exact y1 z
    · rw [if_neg z]; exact y2 z
  have n1 : ¬ nI 1 = 0 := by decide
  unfold pLine at hE hO
  refine Ct_of rfl (Nat.le_of_ble_eq_true rfl) (b_X4_takeLine_0 w9 (N (i := 0) (by decide) (fun z => ?_) (fun z0 => ?_)))
  · have z : nmW T n s.1 = 8 := z
    rw [if_pos z] at hE hO
    refine b_X4_takeLine_6 (hw9_r1 := w9) (hc_isName := fun c => absurd c n1) (hw4_r0 := w4) (hc_takeNode := fun _ => ?_)
    exact c_takeNodeL (d := d + 5) (m := 0) hW h (by decide) (fun g e d1 d2 d3 => b_X4_takeLine_15 (hE g e d1 d2 d3) (Or.inl rfl)) (fun g r d1 d2 d3 d4 => b_X4_takeLine_15 (hO g r d1 d2 d3 d4) (Or.inr rfl))
  have z0 : ¬ nmW T n s.1 = 8 := z0
  rw [if_neg z0] at hE hO
  refine b_X4_takeLine_6 (hw9_r1 := w9) (hc_isName := fun _ => N (i := 1) (by decide) (fun z => ?_) (fun z1 => ?_)) (hw4_r0 := w4) (hc_takeNode := fun c => absurd rfl c)
  · have z : nmW T n s.1 = 4 := z
    rw [if_pos z] at hE hO
    refine b_X4_takeLine_22 (hw9_r1 := w9) (hc_isName := fun c => absurd c n1) (hw4_r0 := w4) (hc_takeNode := fun _ => ?_)
    exact c_takeNodeL (d := d + 5) (m := 1) hW h (by decide) (fun g e d1 d2 d3 => b_X4_takeLine_31 (hE g e d1 d2 d3) (Or.inl rfl)) (fun g r d1 d2 d3 d4 => b_X4_takeLine_31 (hO g r d1 d2 d3 d4) (Or.inr rfl))
  have z1 : ¬ nmW T n s.1 = 4 := z1
  rw [if_neg z1] at hE hO
  refine b_X4_takeLine_22 (hw9_r1 := w9) (hc_isName := fun _ => N (i := 2) (by decide) (fun z => ?_) (fun z2 => ?_)) (hw4_r0 := w4) (hc_takeNode := fun c => absurd rfl c)
  · have z : nmW T n s.1 = 0 := z
    rw [if_pos z] at hE hO
    refine b_X4_takeLine_38 (hw9_r1 := w9) (hc_isName := fun c => absurd c n1) (hw4_r0 := w4) (hc_takeAt := fun _ => ?_)
    exact c_takeAtL (d := d + 1) hW h (fun g e d1 d2 d3 => b_X4_takeLine_46 (hE g e d1 d2 d3) (Or.inl rfl)) (fun g r d1 d2 d3 d4 => b_X4_takeLine_46 (hO g r d1 d2 d3 d4) (Or.inr rfl))
  have z2 : ¬ nmW T n s.1 = 0 := z2
  rw [if_neg z2] at hE hO
  refine b_X4_takeLine_38 (hw9_r1 := w9) (hc_isName := fun _ => N (i := 4) (by decide) (fun z => ?_) (fun z3 => ?_)) (hw4_r0 := w4) (hc_takeAt := fun c => absurd rfl c)
  · have z : nmW T n s.1 = 2 := z
    rw [if_pos z] at hE hO
    refine b_X4_takeLine_53 (hw9_r1 := w9) (hc_isName := fun c => absurd c n1) (hw4_r0 := w4) (hc_takeNext := fun _ => ?_)
    exact c_takeNextL (d := d + 1) hW h (fun g e d1 d2 d3 => b_X4_takeLine_61 (hE g e d1 d2 d3) (Or.inl rfl)) (fun g r d1 d2 d3 d4 => b_X4_takeLine_61 (hO g r d1 d2 d3 d4) (Or.inr rfl))
  have z3 : ¬ nmW T n s.1 = 2 := z3
  rw [if_neg z3] at hE hO
  refine b_X4_takeLine_53 (hw9_r1 := w9) (hc_isName := fun _ => N (i := 5) (by decide) (fun z => ?_) (fun z4 => ?_)) (hw4_r0 := w4) (hc_takeNext := fun c => absurd rfl c)
  · have z : nmW T n s.1 = 9 := z
    rw [if_pos z] at hE hO
    refine b_X4_takeLine_68 (hw4_r0 := w4) (hc_refuseToken := fun c => absurd c n1) (hc_takeAsk := fun _ => ?_)
    exact c_takeAskL hW h hS (fun g e d1 d2 d3 => b_X4_takeLine_76 (hE g e d1 d2 d3) (Or.inl rfl)) (fun g r d1 d2 d3 d4 => b_X4_takeLine_76 (hO g r d1 d2 d3 d4) (Or.inr rfl))
  have z4 : ¬ nmW T n s.1 = 9 := z4
  rw [if_neg z4] at hE
  refine b_X4_takeLine_68 (hw4_r0 := w4) (hc_refuseToken := fun _ => ?_) (hc_takeAsk := fun c => absurd rfl c)
  exact c_refT w4 w9 h1 (fun g r1 r2 => b_X4_takeLine_82 (hE g _ rfl r1 r2) (Or.inl rfl))
theorem c_takesL (hW : WC μ x t u) (hS : ∀ g e, pTxt T n = .error e → FU f g x u → ER g x e → K (some (.int 0)) (sI μ g)) (hO : ∀ g r, pTxt T n = .ok r → FU f g x u → g (x + 3) 4 = nI r.1 → CP g x u T n r.2 → SI n r.2 → r.2.2.2.2.2 ≤ r.2.2.1 60 → K (some (.int 1)) (sI μ g)) : ∀ (m k : Nat), k + m = 320 → ∀ g s, FU f g x u → g (x + 3) 4 = nI k → CP g x u T n s → SI n s → pTxt T n = bnd (pLns T n m k s) (pEnd T n) → G X (Rm (d + 9)) mX4_takes 31 [(0, .ref (x + 3)), (1, .ref (x + 1))] [] (sI μ g) 0 0 K := by
  have w4 := hW.w4
  have w9 := hW.w9
  have hu := hW.u2
  have E : ∀ g k s, FU f g x u → g (x + 3) 4 = nI k → CP g x u T n s → SI n s → pTxt T n = pEnd T n (k, s) → G X (Rm (d + 9)) mX4_takes 71 [(0, .ref (x + 3)), (1, .ref (x + 1))] [] (sI μ g) 0 0 K := fun g k s fu e4 hc hsi ht => by
    have g6 := hc.2.2.2.1.2
    have e1 : (nI s.2.2.2.2 - 1).toInt = (s.2.2.2.2 : Int) - 1 := pk_sub_toInt (b := 1) (by omega) (by decide)
    have p6 := hc.2.1.2
    have lt : (iv (sI μ g) (x + 3) 1 < iv (sI μ g) (u + 1) 0) ↔ s.2.2.2.2 ≤ s.2.1 60 := by
      rw [iv_sI, iv_sI, hc.2.2.2.1.1, hc.2.1.1.1, Int32.lt_iff_toInt_lt, e1, nI_toInt (by omega)]
      omega
    refine b_X4_takes_71 (p0 := u) (hw4_r0 := w4) (hr_p0 := hW.ru) (hw10_p0 := hW.wu.1) (hw5_p01 := hW.wu.2.1) (hK := fun c => ?_) (hc_refuse := fun c => ?_)
    · rw [lt] at c
      have e : pTxt T n = .ok (k, s) := by rw [ht]; unfold pEnd; rw [if_pos c]
      exact hO g _ e fu e4 hc hsi c
    · rw [lt] at c
      have e : pTxt T n = .error (6, tA T n s.1) := by rw [ht]; unfold pEnd; rw [if_neg c]
      exact c_refuse (c := 6) w4 w9 hc.1 (fun g' r1 r2 => b_X4_takes_95 (hK := fun _ => hS g' _ e (fu.tr r1) r2) (hK_2 := fun c => absurd rfl c))
  intro m
  induction m with
  | zero =>
    intro k hk g s fu e4 hc hsi ht
    have le : (320 : Int32) ≤ iv (sI μ g) (x + 3) 4 := by rw [iv_sI, e4]; exact nI_le (a := 320) (by omega) (by omega)
    exact b_X4_takes_31 (hw4_r0 := w4) (h := fun _ => E g k s fu e4 hc hsi ht) (hw9_r1 := w9) (h_2 := fun c => absurd le c) (hc_takeLine := fun c => absurd le c)
  | succ m ih =>
    intro k hk g s fu e4 hc hsi ht
    have nle : ¬ (320 : Int32) ≤ iv (sI μ g) (x + 3) 4 := by rw [iv_sI, e4]; exact ge_c (n := 320) (by omega) (by decide)
    rw [pLns_s] at ht
    have tl := tK_le (T := T) (n := n) (q := s.1)
    have k0 : (iv (sI μ g) (x + 1) 2 = 0) ↔ tK T n s.1 = 0 := (hc.1.2.2.k1 (c := 1) (m := 0) (by decide) (by decide)).trans (ck_0 tl)
    refine b_X4_takes_31 (hw4_r0 := w4) (h := fun c => absurd c nle) (hw9_r1 := w9) (h_2 := fun _ c => ?_) (hc_takeLine := fun _ c => ?_)
    · rw [k0] at c
      rw [if_pos c] at ht
      exact E g k s fu e4 hc hsi ht
    · rw [k0] at c
      rw [if_neg c] at ht
      refine c_takeLineL hW hc hsi (fun g' e d1 d2 d3 => ?_) (fun g' r d1 d2 d3 d4 => ?_)
      · refine b_X4_takes_53 (hw4_r0 := w4) (h := fun c => absurd rfl c) (hK := fun _ => hS g' e ?_ (fu.tr d2) d3)
        rw [ht]; exact bnd_e (bnd_e d1)
      · rw [bnd_o d1] at ht
        refine b_X4_takes_53 (hw4_r0 := w4) (h := fun _ => ?_) (hK := fun c => absurd c (by decide))
        rw [wi_sI, iv_sI, d3, e4, nI_1]
        obtain ⟨c1, ⟨c2, c26⟩, c3, c4, c5⟩ := d4
        refine ih (k + 1) (by omega) _ r ((fu.tr d2).tr (fun z _ b _ j => u2_x b)) (u2_s _ _ _ _) ⟨c1.fr (fun z hz j => u2_x (by omega)), ⟨c2.fr (fun z z1 z2 j => u2_x (by omega)), c26⟩, c3.fr (u2_x (by omega)) (fun z z1 z2 j => u2_x (by omega)), ⟨by rw [u2_k (by decide)]; exact c4.1, c4.2⟩, by rw [u2_k (by decide)]; exact c5⟩ (pLine_ok hsi d1).1 ht
theorem SI_0 (n : Nat) : SI n pS0 := by
  refine ⟨Nat.zero_le _, ⟨⟨by show 0 ≤ 6; decide, by show 0 ≤ 6; decide⟩, fun _ _ => Nat.zero_le _, fun _ _ _ _ => Nat.zero_le _, fun _ _ _ _ => Nat.zero_le _, fun _ _ _ => rfl, fun _ _ _ _ _ => rfl, fun _ _ _ _ _ => rfl⟩, by show 0 ≤ 4; decide, fun k hk => absurd hk (Nat.not_lt_zero _), fun _ _ => rfl⟩
theorem c_takes (hW : WC μ x t u) (hT : TP f (x + 1) T n) (hS : ∀ g e, pTxt T n = .error e → FU f g x u → ER g x e → K (some (.int 0)) (sI μ g)) (hO : ∀ g r, pTxt T n = .ok r → FU f g x u → g (x + 3) 4 = nI r.1 → CP g x u T n r.2 → SI n r.2 → r.2.2.2.2.2 ≤ r.2.2.1 60 → K (some (.int 1)) (sI μ g)) : Ct X (Rm (d + 9)) mX4_takes [.ref (x + 3), .ref (x + 1)] (sI μ f) K := by
  have w4 := hW.w4
  have w9 := hW.w9
  have hu := hW.u2
  refine Ct_of rfl (Nat.le_of_ble_eq_true rfl) (b_X4_takes_0 (p0 := u) w4 hW.ru hW.wu.1 ?_)
  refine Ct_of rfl (Nat.le_of_ble_eq_true rfl) (b_X10_clear_0 (d := d + 6) hW.wu.1 hW.wu.2.1 (c_clear hW.wu.2.1 (fun g1 r1 r2 => b_X10_clear_7 hW.wu.1 (b_X4_takes_7 w4 w9 ?_))))
  rw [wi_sI, wi_sI, wi_sI, wi_sI]
  refine Ct_of rfl (Nat.le_of_ble_eq_true rfl) (b_X9_rewind_0 (d := d + 7) w9 ?_)
  rw [wi_sI]
  have gf : ∀ z, z ≠ x + 1 → z ≠ x + 3 → z ≠ u → ¬ (u + 1 ≤ z ∧ z < u + 1 + 24) → ∀ j, u2 (u2 (u2 (u2 (u2 g1 u 2 0) (x + 3) 1 (-1)) (x + 3) 2 0) (x + 3) 3 0) (x + 1) 4 0 z j = f z j := fun z a b c e j => by rw [u2_x a, u2_x b, u2_x b, u2_x b, u2_x c]; exact r1 z (by omega) j
  have e11 : u2 (u2 (u2 (u2 (u2 g1 u 2 0) (x + 3) 1 (-1)) (x + 3) 2 0) (x + 3) 3 0) (x + 1) 4 0 (x + 1) 1 = f (x + 1) 1 := by rw [u2_k (by decide), u2_x (by omega), u2_x (by omega), u2_x (by omega), u2_x (by omega)]; exact r1 _ (by omega) 1
  have e14 : u2 (u2 (u2 (u2 (u2 g1 u 2 0) (x + 3) 1 (-1)) (x + 3) 2 0) (x + 3) 3 0) (x + 1) 4 0 (x + 1) 4 = nI 0 := u2_s _ _ _ _
  have e31 : u2 (u2 (u2 (u2 (u2 g1 u 2 0) (x + 3) 1 (-1)) (x + 3) 2 0) (x + 3) 3 0) (x + 1) 4 0 (x + 3) 1 = -1 := by rw [u2_x (by omega), u2_k (by decide), u2_k (by decide), u2_s]
  have e32 : u2 (u2 (u2 (u2 (u2 g1 u 2 0) (x + 3) 1 (-1)) (x + 3) 2 0) (x + 3) 3 0) (x + 1) 4 0 (x + 3) 2 = 0 := by rw [u2_x (by omega), u2_k (by decide), u2_s]
  have eu2 : u2 (u2 (u2 (u2 (u2 g1 u 2 0) (x + 3) 1 (-1)) (x + 3) 2 0) (x + 3) 3 0) (x + 1) 4 0 u 2 = 0 := by rw [u2_x (by omega), u2_x (by omega), u2_x (by omega), u2_x (by omega), u2_s]
  have sh : Sh (u2 (u2 (u2 (u2 (u2 g1 u 2 0) (x + 3) 1 (-1)) (x + 3) 2 0) (x + 3) 3 0) (x + 1) 4 0) (u + 1) (fun _ => 0) := r2.fr (fun z z1 z2 j => by rw [u2_x (by omega), u2_x (by omega), u2_x (by omega), u2_x (by omega), u2_x (by omega)])
  generalize u2 (u2 (u2 (u2 (u2 g1 u 2 0) (x + 3) 1 (-1)) (x + 3) 2 0) (x + 3) 3 0) (x + 1) 4 0 = f0 at gf e11 e14 e31 e32 eu2 sh ⊢
  have tp : TP f0 (x + 1) T n := ⟨hT.1, hT.2.1, by rw [e11]; exact hT.2.2.1, fun i hi => by rw [gf _ (by omega) (by omega) (by omega) (by omega)]; exact hT.2.2.2 i hi⟩
  refine c_advance w9 tp e14 (Nat.zero_le _) (fun g2 s1 s2 s3 => b_X9_rewind_9 (b_X4_takes_26 w4 ?_))
  rw [wi_sI]
  have tp2 : TP g2 (x + 1) T n := ⟨tp.1, tp.2.1, by rw [s2 1 (by decide)]; exact tp.2.2.1, fun i hi => by rw [s1 _ (by omega)]; exact tp.2.2.2 i hi⟩
  have a2 : AT g2 x T n 0 := ⟨tp2, Nat.zero_le _, s3⟩
  refine c_takesL hW hS hO 320 0 (by decide) _ pS0 (fun z a b c j => ?_) (u2_s _ _ _ _) ⟨a2.fr (fun z hz j => u2_x (by omega)), ⟨?_, by show 0 ≤ 6; decide⟩, ⟨?_, by show 0 ≤ 4; decide, fun k hk => absurd hk (Nat.not_lt_zero _)⟩, ⟨?_, by show 0 ≤ 6; decide⟩, ?_⟩ (SI_0 n) rfl
  · rw [u2_x b, s1 z a, gf z a b (by omega) (by omega)]
  · exact (sh.fr (g := g2) (fun z z1 z2 j => s1 z (by omega) j)).fr (fun z z1 z2 j => u2_x (by omega))
  · rw [u2_x (by omega), s1 _ (by omega), eu2]; rfl
  · rw [u2_k (by decide), s1 _ (by omega), e31]; rfl
  · rw [u2_k (by decide), s1 _ (by omega), e32]
def tx_e (σ : aS) (c : Nat) : aS := us σ 5 (upd1 (upd1 (σ 5) 1 0) 2 c)
def tx_o (σ : aS) (p F : Nat → Nat) (m : Nat) : aS := us (us (us (us σ 0 p) 3 (fun _ => 0)) 4 F) 5 (upd1 (upd1 (upd1 (σ 5) 0 m) 1 0) 2 0)
def R_text (σ : aS) : Int32 := match pTxt (σ 6) (σ 5 1) with
  | .error e => -10 - nI e.2
  | .ok r => nI r.1
def N_text (σ : aS) : aS := match pTxt (σ 6) (σ 5 1) with
  | .error e => tx_e σ e.1
  | .ok r => tx_o σ r.2.2.1 r.2.2.2.1 r.2.2.2.2.1
theorem R_text_e {σ : aS} {e : Nat × Nat} (h : pTxt (σ 6) (σ 5 1) = .error e) : R_text σ = -10 - nI e.2 := by unfold R_text; rw [h]
theorem R_text_o {σ : aS} {r : Nat × pS} (h : pTxt (σ 6) (σ 5 1) = .ok r) : R_text σ = nI r.1 := by unfold R_text; rw [h]
theorem N_text_e {σ : aS} {e : Nat × Nat} (h : pTxt (σ 6) (σ 5 1) = .error e) : N_text σ = tx_e σ e.1 := by unfold N_text; rw [h]
theorem N_text_o {σ : aS} {r : Nat × pS} (h : pTxt (σ 6) (σ 5 1) = .ok r) : N_text σ = tx_o σ r.2.2.1 r.2.2.2.1 r.2.2.2.2.1 := by unfold N_text; rw [h]
/-- the references of two cells alone may differ -/
def MR (μ ν : mM) (x : Nat) : Prop := (∀ z, kd ν z = kd μ z) ∧ (∀ z k, z ≠ x → z ≠ x + 3 → rv ν z k = rv μ z k) ∧ sz ν = sz μ
theorem WTo.mr {ν : mM} {y : Nat} (h : MR μ ν x) (hw : WTo μ y) (hy : x + 3 < y) : WTo ν y := by
  obtain ⟨h1, h2, _⟩ := h
  have k : ∀ z, kd ν z = kd μ z := h1
  have r : ∀ z j, x + 3 < z → rv ν z j = rv μ z j := fun z j hz => h2 z j (by omega) (by omega)
  obtain ⟨a, b, c⟩ := hw
  unfold WTo WF10 WF5 WF3 at *
  refine ⟨?_, ?_, fun i hi => ?_⟩
  · simp only [k, r y _ hy, r (y + 25) _ (by omega)]; exact a
  · simp only [k, r (y + 1) _ (by omega), r (y + 1 + 2) _ (by omega), r (y + 1 + 6) _ (by omega), r (y + 1 + 13) _ (by omega), r (y + 1 + 20) _ (by omega)]; exact b
  · have := c i hi
    simp only [k, r (y + 26 + 8 * i) _ (by omega)]; exact this
theorem WF5.mr {ν : mM} {y : Nat} (h : MR μ ν x) (hw : WF5 μ y) (hy : x + 3 < y) : WF5 ν y := by
  obtain ⟨h1, h2, _⟩ := h
  have k : ∀ z, kd ν z = kd μ z := h1
  have r : ∀ z j, x + 3 < z → rv ν z j = rv μ z j := fun z j hz => h2 z j (by omega) (by omega)
  unfold WF5 at *
  simp only [k, r y _ (by omega), r (y + 2) _ (by omega), r (y + 6) _ (by omega), r (y + 13) _ (by omega), r (y + 20) _ (by omega)]; exact hw
theorem WF12.mr {ν : mM} {y : Nat} (h : MR μ ν x) (hw : WF12 μ y) (hy : x + 3 < y) : WF12 ν y := by
  obtain ⟨h1, h2, _⟩ := h
  have k : ∀ z, kd ν z = kd μ z := h1
  have r : ∀ j, rv ν y j = rv μ y j := fun j => h2 y j (by omega) (by omega)
  unfold WF12 at *
  simp only [k, r]; exact hw
theorem WC.sw (h : WC μ x t u) : MR μ (wr (wr μ x 2 (some u)) (x + 3) 0 (some t)) x ∧ WC (wr (wr μ x 2 (some u)) (x + 3) 0 (some t)) x u t := by
  have r : ∀ z j, ¬ (z = x ∧ j = 2) → ¬ (z = x + 3 ∧ j = 0) → rv (wr (wr μ x 2 (some u)) (x + 3) 0 (some t)) z j = rv μ z j := fun z j a b => by
    rw [rv_wr, if_neg b, rv_wr, if_neg a]
  have mr : MR μ (wr (wr μ x 2 (some u)) (x + 3) 0 (some t)) x := ⟨fun z => rfl, fun z k a b => r z k (fun q => a q.1) (fun q => b q.1), rfl⟩
  have hu := h.u2
  have ht := h.t2
  have htu := h.tu
  refine ⟨mr, ?_, ?_, ?_, by omega, h.wu.mr mr (by omega), h.wt.mr mr (by omega), ?_, h.w4, fun k hk => (h.wim k hk).mr mr (by omega), h.wbf.mr mr (by omega), ?_, ⟨?_, h.w2.2.mr mr (by omega)⟩, ⟨?_, h.w6.2.mr mr (by omega)⟩, h.w8, ?_, fun k hk => ?_⟩
  · have w := h.w11
    unfold WF11 at *
    have e : ∀ j, j ≠ 2 → rv (wr (wr μ x 2 (some u)) (x + 3) 0 (some t)) x j = rv μ x j := fun j hj => r x j (fun q => hj q.2) (fun q => by omega)
    have e2 : ∀ j, rv (wr (wr μ x 2 (some u)) (x + 3) 0 (some t)) (x + 120) j = rv μ (x + 120) j := fun j => r _ j (fun q => by omega) (fun q => by omega)
    have e3 : ∀ j, rv (wr (wr μ x 2 (some u)) (x + 3) 0 (some t)) (x + 122) j = rv μ (x + 122) j := fun j => r _ j (fun q => by omega) (fun q => by omega)
    rw [e 0 (by decide), e 1 (by decide), e 4 (by decide), e 5 (by decide), e 6 (by decide), e 8 (by decide), e 9 (by decide), e 10 (by decide), e 11 (by decide), e 12 (by decide), e 13 (by decide)]
    simp only [e2, e3]
    exact w
  · rw [rv_wr, if_neg (by omega), rv_wr, if_pos ⟨rfl, rfl⟩]
  · rw [rv_wr, if_pos ⟨rfl, rfl⟩]
  · have w := h.w9
    unfold WF9 at *
    rw [r _ _ (by omega) (by omega)]; exact w
  · have w := h.w1
    unfold WF1 at *
    rw [r _ _ (by omega) (by omega)]; exact w
  · have w := h.w2.1
    unfold WF2 at *
    rw [r _ _ (by omega) (by omega), r _ _ (by omega) (by omega)]; exact w
  · have w := h.w6.1
    unfold WF6 at *
    rw [r _ _ (by omega) (by omega)]; exact w
  · have w := h.w0
    unfold WF0 at *
    rw [r _ _ (by omega) (by omega), r _ _ (by omega) (by omega)]; exact w
  · have w := h.w7 k hk
    unfold WF7 at *
    rw [r _ _ (by omega) (by omega)]; exact w
theorem WF11.w2 {v : Option Nat} (w : WF11 μ x) : WF11 (wr μ x 2 v) x := by
  have r : ∀ z j, ¬ (z = x ∧ j = 2) → rv (wr μ x 2 v) z j = rv μ z j := fun z j a => by rw [rv_wr, if_neg a]
  unfold WF11 at *
  have e : ∀ j, j ≠ 2 → rv (wr μ x 2 v) x j = rv μ x j := fun j hj => r x j (fun q => hj q.2)
  have e2 : ∀ j, rv (wr μ x 2 v) (x + 120) j = rv μ (x + 120) j := fun j => r _ j (fun q => by omega)
  have e3 : ∀ j, rv (wr μ x 2 v) (x + 122) j = rv μ (x + 122) j := fun j => r _ j (fun q => by omega)
  rw [e 0 (by decide), e 1 (by decide), e 4 (by decide), e 5 (by decide), e 6 (by decide), e 8 (by decide), e 9 (by decide), e 10 (by decide), e 11 (by decide), e 12 (by decide), e 13 (by decide)]
  simp only [e2, e3]
  exact w
theorem C_text {σ : aS} (hW : WC μ x t u) (hC : CI f x t σ) (hO : OKs σ) (hK : ∀ f' ν t' u', MR μ ν x → WC ν x t' u' → Fr f f' x 260 → CI f' x t' (N_text σ) → K (some (.int (R_text σ))) (sI ν f')) : Ct X (Rm (d + 10)) mX11_text [.ref x] (sI μ f) K := by
  have hu := hW.u2
  have ht := hW.t2
  have htu := hW.tu
  have w4 := hW.w4
  have w9 := hW.w9
  have tp : TP f (x + 1) (σ 6) (σ 5 1) := ⟨hO.2.2.2.1.1, hO.2.2.2.1.2, hC.2.2.2.1.1, hC.2.2.2.1.2⟩
  have h41 := hO.2.2.1.1
  refine Ct_of rfl (Nat.le_of_ble_eq_true rfl) (b_X11_text_0 hW.w11 w4 (c_takes hW tp (fun g e d1 d2 d3 => ?_) (fun g r d1 d2 d3 d4 d5 d6 => ?_)))
  · refine b_X11_text_11 (p0 := t) (p1 := u) (hw11_r0 := hW.w11) (hw9_r01 := w9) (hw4_r03 := w4) (hr_p0 := hW.rt) (hr_p1 := hW.ru) (h := fun c => absurd rfl c) (hK := fun _ => ?_)
    rw [wi_sI, iv_sI, wi_sI, iv_sI, u2_x (a := x + 1) (by omega), d3.1, u2_x (a := x) (by omega), u2_x (a := x + 1) (by omega), d3.2, ← R_text_e d1]
    have gf : ∀ z, z ≠ x → z ≠ x + 1 → z ≠ x + 3 → ¬ (u ≤ z ∧ z < u + 58) → ∀ j, u2 (u2 g (x + 1) 1 0) x 3 (nI e.1) z j = f z j := fun z a b c e j => by rw [u2_x a, u2_x b]; exact d2 z b c e j
    have gx : ∀ j, j ≠ 3 → u2 (u2 g (x + 1) 1 0) x 3 (nI e.1) x j = f x j := fun j hj => by rw [u2_k hj, u2_x (by omega)]; exact d2 x (by omega) (by omega) (by omega) j
    refine hK _ μ t u ⟨fun _ => rfl, fun _ _ _ _ => rfl, rfl⟩ hW (fun z hz j => gf z (by omega) (by omega) (by omega) (by omega) j) ?_
    rw [N_text_e d1]
    obtain ⟨h1, h2, h3, h5, h6, h7⟩ := hC
    refine ⟨h1.fr (fun z a b j => gf z (by omega) (by omega) (by omega) (by omega) j), fun k hk => ?_, ⟨?_, fun k hk => ?_⟩, ⟨?_, fun i hi => absurd hi (Nat.not_lt_zero _)⟩, ⟨?_, ?_⟩, fun k hk => ?_⟩
    · have e1 : tx_e σ e.1 (1 + k) = σ (1 + k) := us_n (by omega)
      rw [e1]
      refine ⟨(h2 k hk).1.fr (fun z a b j => gf z (by omega) (by omega) (by omega) (by omega) j), ?_⟩
      rw [gf _ (by omega) (by omega) (by omega) (by omega)]
      exact (h2 k hk).2
    · rw [gf _ (by omega) (by omega) (by omega) (by omega)]; exact h3.1
    · have hk : k < σ 5 0 := hk
      exact (h3.2 k hk).fr (fun z z1 z2 j => gf z (by omega) (by omega) (by omega) (by omega) j)
    · rw [u2_x (by omega), u2_s]; rfl
    · rw [u2_s]; rfl
    · rw [gx _ (by decide)]; exact h6.2
    · exact (h7 k hk).fr (fun z hz j => gf z (by omega) (by omega) (by omega) (by omega) j)
  · obtain ⟨c1, ⟨c2, c26⟩, c3, c4, c5⟩ := d4
    refine b_X11_text_11 (p0 := t) (p1 := u) (hw11_r0 := hW.w11) (hw9_r01 := w9) (hw4_r03 := w4) (hr_p0 := hW.rt) (hr_p1 := hW.ru) (h := fun _ => ?_) (hK := fun c => absurd c (by decide))
    obtain ⟨mr, wc⟩ := hW.sw
    rw [wi_sI, iv_sI, wi_sI, u2_x (a := x + 1) (by omega), c5]
    refine b_X11_text_62 (WF11.w2 (μ := μ) (v := some u) hW.w11) w4 (b_X11_text_70 ?_)
    show G X (Rm (d + 10)) mX11_text 72 _ [] (sI (wr (wr μ x 2 (some u)) (x + 3) 0 (some t)) (u2 (u2 g (x + 1) 1 0) x 3 0)) 0 0 K
    generalize wr (wr μ x 2 (some u)) (x + 3) 0 (some t) = ν at mr wc ⊢
    have E : ∀ g2, (∀ z, z ≠ x + 121 → ∀ j, g2 z j = u2 (u2 g (x + 1) 1 0) x 3 0 z j) → (∀ k, k < 2 → g2 (x + 121) k = 0) → K (some (.int (iv (sI ν g2) (x + 3) 4))) (sI ν g2) := fun g2 e1 e2 => by
      rw [iv_sI, e1 _ (by omega), u2_x (by omega), u2_x (by omega), d3, ← R_text_o d1]
      have gf : ∀ z, z ≠ x → z ≠ x + 1 → z ≠ x + 3 → z ≠ x + 121 → ¬ (u ≤ z ∧ z < u + 58) → ∀ j, g2 z j = f z j := fun z a b c e' e j => by rw [e1 z e', u2_x a, u2_x b]; exact d2 z b c e j
      have gx : ∀ j, j ≠ 3 → g2 x j = f x j := fun j hj => by rw [e1 _ (by omega), u2_k hj, u2_x (by omega)]; exact d2 x (by omega) (by omega) (by omega) j
      have gg : ∀ z, u ≤ z → z < u + 58 → ∀ j, g2 z j = g z j := fun z a b j => by rw [e1 z (by omega), u2_x (by omega), u2_x (by omega)]
      refine hK _ ν u t mr wc (fun z hz j => gf z (by omega) (by omega) (by omega) (by omega) (by omega) j) ?_
      rw [N_text_o d1]
      obtain ⟨h1, h2, h3, h5, h6, h7⟩ := hC
      refine ⟨c2.fr (fun z a b j => gg z (by omega) (by omega) j), fun k hk => ?_, ⟨?_, fun k hk => ?_⟩, ⟨?_, fun i hi => absurd hi (Nat.not_lt_zero _)⟩, ⟨?_, ?_⟩, fun k hk => ?_⟩
      · have e1 : tx_o σ r.2.2.1 r.2.2.2.1 r.2.2.2.2.1 (1 + k) = σ (1 + k) := by unfold tx_o; rw [us_n (by omega), us_n (by omega), us_n (by omega), us_n (by omega)]
        rw [e1]
        exact ⟨(h2 k hk).1.fr (fun z a b j => gf z (by omega) (by omega) (by omega) (by omega) (by omega) j), e2 k hk⟩
      · rw [gg _ (by omega) (by omega)]; exact c3.1
      · have hk : k < r.2.2.2.2.1 := hk
        have m4 := c3.2.1
        exact (c3.2.2 k hk).fr (fun z z1 z2 j => gg z (by omega) (by omega) j)
      · rw [e1 _ (by omega), u2_x (by omega), u2_s]; rfl
      · rw [e1 _ (by omega), u2_s]; rfl
      · rw [gx _ (by decide)]; exact h6.2
      · exact (h7 k hk).fr (fun z hz j => gf z (by omega) (by omega) (by omega) (by omega) (by omega) j)
    have w11 := wc.w11
    have w4n := wc.w4
    refine b_X11_text_72 (hw11_r0 := w11) (hw4_r03 := w4n) (hK := fun c => absurd c (by decide)) (hb := fun _ => by decide) (h := fun _ => ?_)
    rw [wi_sI]
    refine b_X11_text_72 (hw11_r0 := w11) (hw4_r03 := w4n) (hK := fun c => absurd c (by decide)) (hb := fun _ => by decide) (h := fun _ => ?_)
    rw [wi_sI]
    refine b_X11_text_72 (hw11_r0 := w11) (hw4_r03 := w4n) (hK := fun _ => E _ (fun z hz j => by rw [u2_x hz, u2_x hz]) (fun k hk => ?_)) (hb := fun c => absurd (by decide) c) (h := fun c => absurd (by decide) c)
    rcases (by omega : k = 0 ∨ k = 1) with e | e
    · rw [e, u2_k (by decide), u2_s]
    · rw [e, u2_s]
end P62
