theorem CFm.cg {f : Nat → Nat → Int32} {a o : Nat} {F F' : Nat → Nat} (h : CFm f a F o) (h2 : F (o + 2) ≤ 12) (he : ∀ j, o ≤ j → j < o + 48 → F' j = F j) : CFm f a F' o := by
  obtain ⟨a1, a2, a3, a4, a5⟩ := h
  have e0 := he o (by omega) (by omega)
  have e1 := he (o + 1) (by omega) (by omega)
  have e2 := he (o + 2) (by omega) (by omega)
  have e3 := he (o + 3) (by omega) (by omega)
  refine ⟨by rw [e0]; exact a1, by rw [e2]; exact a2, by rw [e3]; exact a3, fun q hq => ?_, fun i hi => ?_⟩
  · rw [e0] at hq
    unfold bitF
    rw [e1]; exact a4 q hq
  · rw [e2] at hi
    show f (a + 3) i = nI (F' (o + 8 + 3 * i)) ∧ f (a + 4) i = nI (F' (o + 8 + 3 * i + 1)) ∧ f (a + 5) i = nI (F' (o + 8 + 3 * i + 2))
    rw [he _ (by omega) (by omega), he _ (by omega) (by omega), he _ (by omega) (by omega)]
    exact a5 i hi
/-- a formula of the class in the middle -/
def CFb (f : Nat → Nat → Int32) (a : Nat) (F : Nat → Nat) (o h : Nat) : Prop := CFm f a F o ∧ f a 7 = nI h ∧ (∀ p, p < F o → ∃ l, l < 3 ∧ f (a + 1) p = nI l ∧ F (o + 4 + l) = p + 1) ∧ ∀ l, l < 3 → F (o + 4 + l) ≠ 0 → f (a + 1) (F (o + 4 + l) - 1) = nI l
theorem CFb.fr {f g : Nat → Nat → Int32} {a o h : Nat} {F : Nat → Nat} (hb : CFb f a F o h) (h0 : ∀ z, a ≤ z → z < a + 6 → ∀ j, g z j = f z j) : CFb g a F o h :=
  ⟨hb.1.fr h0, by rw [h0 _ (by omega) (by omega)]; exact hb.2.1, fun p hp => by rw [h0 _ (by omega) (by omega)]; exact hb.2.2.1 p hp, fun l hl hn => by rw [h0 _ (by omega) (by omega)]; exact hb.2.2.2 l hl hn⟩
section P60
variable {X : cX} {d : Nat} {μ : mM} {K : Option Value → mM → Prop} {f : Nat → Nat → Int32} {x t u q n a o h : Nat} {T F : Nat → Nat}
theorem c_placeOf {l : Nat} (hw : WF3 μ a) (hb : CFb f a F o h) (hI : IV F o h) (hl : l < 3) (hK : K (some (.int (if F (o + 4 + l) = 0 then -1 else nI (F (o + 4 + l) - 1)))) (sI μ f)) : Ct X (Rm d) mX3_placeOf [.ref a, .int (nI l)] (sI μ f) K := by
  have i1 := hI.1
  have i7 := hI.2.2.2.2.2.2.1 l hl
  have e0 : iv (sI μ f) a 0 = nI (F o) := hb.1.1
  refine Ct_of rfl (Nat.le_of_ble_eq_true rfl) (b_X3_placeOf_0 ?_)
  have H : ∀ i, i ≤ F o → (∀ p, p < i → f (a + 1) p ≠ nI l) → G X (Rm d) mX3_placeOf 2 [(0, .ref a), (1, .int (nI l)), (2, .int (nI i))] [] (sI μ f) 0 0 K := by
    refine dn _ ?_ ?_
    · intro hp
      refine b_X3_placeOf_2 (hw3_r0 := hw) (hK := fun _ => ?_) (hb := ?_) (h := ?_) (hK_2 := ?_)
      · have z : F (o + 4 + l) = 0 := Decidable.byContradiction fun z => hp _ (by omega) (hb.2.2.2 l hl z)
        rw [if_pos z] at hK; exact hK
      all_goals (intro c; rw [e0] at c; exact absurd (le_r _) c)
    · intro i hi ih hp
      refine b_X3_placeOf_2 (hw3_r0 := hw) (hK := fun c => absurd c (by rw [e0]; exact ge_c hi (by omega))) (hb := fun _ => by omega) (h := fun _ c => ih (fun p hpi => ?_)) (hK_2 := fun _ c => ?_)
      · by_cases w : p = i
        · rw [w]; exact c
        · exact hp p (by omega)
      · obtain ⟨l', hl', e1, e2⟩ := hb.2.2.1 i hi
        have c : f (a + 1) i = nI l := c
        have e3 : l' = l := (nI_eq (by omega) (by omega)).mp (e1.symm.trans c)
        rw [e3] at e2
        rw [if_neg (by omega), e2] at hK
        exact hK
  exact H 0 (Nat.zero_le _) (fun p hp => absurd hp (Nat.not_lt_zero _))
theorem c_putLetter {l b : Nat} (hw : WF3 μ a) (hb : CFb f a F o h) (hI : IV F o h) (h2 : F (o + 2) = 0) (hl : l < 3) (hz : F (o + 4 + l) = 0) (hb2 : b < 2) (hK : ∀ g, (∀ z, ¬ (a ≤ z ∧ z < a + 8) → ∀ j, g z j = f z j) → CFb g a (lt1 F o l b) o h → K none (sI μ g)) : Ct X (Rm d) mX3_putLetter [.ref a, .int (nI l), .int (nI b)] (sI μ f) K := by
  have lt := (IV_lt1 (b := b) hI h2 hl hz hb2).2.2
  have e0 : f a 0 = nI (F o) := hb.1.1
  have bb := bitsL (F o) lt (F (o + 1)) hI.2.1 b hb2
  have lc : ¬ (3 : Int32) ≤ iv (sI μ f) a 0 := by rw [iv_sI, e0]; exact ge_c (n := 3) lt (by decide)
  refine Ct_of rfl (Nat.le_of_ble_eq_true rfl) (b_X3_putLetter_0 (j0 := F o) (j1 := F o) (hw3_r0 := hw) (hK := fun c => absurd c lc) (hi_j0 := fun _ => e0) (hb := fun _ => lt) (hi_j1 := fun _ => ?_) (hb_2 := fun _ => lt) (hz := fun _ => ?_) (hK_2 := fun _ => ?_))
  · rw [wi_sI, iv_sI, u2_x (by omega)]; exact e0
  · rcases (by omega : b = 0 ∨ b = 1) with e | e
    · rw [e]; exact Or.inl rfl
    · rw [e]; exact Or.inr rfl
  · rw [wi_sI, wi_sI, iv_sI, wi_sI, u2_x (a := a + 2) (by omega), u2_x (a := a + 1) (by omega), e0, nI_1]
    refine hK _ (fun z hz j => by rw [u2_x (by omega), u2_x (by omega), u2_x (by omega)]) ⟨⟨by rw [u2_s, lt1_o], ?_, ?_, fun p hp => ?_, fun i hi => ?_⟩, ?_, fun p hp => ?_, fun m hm hn => ?_⟩
    · rw [u2_k (by decide), u2_x (by omega), u2_x (by omega), lt1_x (by omega) (by omega) (by omega)]; exact hb.1.2.1
    · rw [u2_k (by decide), u2_x (by omega), u2_x (by omega), lt1_x (by omega) (by omega) (by omega)]; exact hb.1.2.2.1
    · rw [lt1_o] at hp
      have := bb.2 p hp
      unfold bitF
      rw [lt1_1, this, u2_x (by omega)]
      by_cases c : p = F o
      · rw [c, u2_s, if_pos rfl]
      · rw [u2_k c, u2_x (by omega), if_neg c]; exact hb.1.2.2.2.1 p (by omega)
    · rw [lt1_x (by omega) (by omega) (by omega), h2] at hi; omega
    · rw [u2_k (by decide), u2_x (by omega), u2_x (by omega)]; exact hb.2.1
    · rw [lt1_o] at hp
      rw [u2_x (by omega), u2_x (by omega)]
      by_cases c : p = F o
      · refine ⟨l, hl, by rw [c, u2_s], ?_⟩
        rw [lt1_l, c]
      · obtain ⟨l', hl', e1, e2⟩ := hb.2.2.1 p (by omega)
        refine ⟨l', hl', by rw [u2_k c]; exact e1, ?_⟩
        rw [lt1_x (fun z => ?_) (by omega) (by omega)]
        · exact e2
        · have : l' = l := by omega
          rw [this, hz] at e2; omega
    · rw [u2_x (by omega), u2_x (by omega)]
      by_cases c : m = l
      · subst c
        rw [lt1_l, Nat.add_sub_cancel, u2_s]
      · rw [lt1_x (by omega) (by omega) (by omega)] at hn ⊢
        have i7 := hI.2.2.2.2.2.2.1 m hm
        rw [u2_k (by omega)]; exact hb.2.2.2 m hm hn
/-- the tape and the formula have gone on -/
def NF (f g : Nat → Nat → Int32) (x a : Nat) : Prop := ∀ z, z ≠ x + 1 → ¬ (a ≤ z ∧ z < a + 8) → ∀ j, g z j = f z j
theorem NF.tr {g k : Nat → Nat → Int32} (h1 : NF f g x a) (h2 : NF g k x a) : NF f k x a := fun z p q j => (h2 z p q j).trans (h1 z p q j)
theorem NX.nf {g : Nat → Nat → Int32} {q : Nat} (h : NX f g x T n q) : NF f g x a := fun z p _ j => h.1 z p j
theorem NF.fu {g : Nat → Nat → Int32} (h : NF f g x a) (h1 : u ≤ a) (h2 : a + 8 ≤ u + 58) : FU f g x u := fun z p _ r j => h z p (by omega) j
theorem c_tellLetter (hw4 : WF4 μ (x + 3)) (hw9 : WF9 μ (x + 1)) (hw : WF3 μ a) (hu : x + 3 < u) (hua : u ≤ a) (hua2 : a + 8 ≤ u + 58) (h1 : AT f x T n q) (hb : CFb f a F o h) (hI : IV F o h) (h2 : F (o + 2) = 0) (hE : ∀ g e, pLet T n o (if nmW T n q = 11 then 1 else 0) (tB T n q) F = .error e → FU f g x u → ER g x e → K (some (.int 0)) (sI μ g)) (hO : ∀ g r, pLet T n o (if nmW T n q = 11 then 1 else 0) (tB T n q) F = .ok r → NF f g x a → AT g x T n r.1 → CFb g a r.2 o h → K (some (.int 1)) (sI μ g)) : Ct X (Rm (d + 5)) mX4_tellLetter [.ref (x + 3), .ref (x + 1), .ref a] (sI μ f) K := by
  have eb : ∀ (b : Nat), (if nmW T n q = 11 then 1 else 0) = b → b < 2 := fun b hb => by
    rw [← hb]; split <;> decide
  refine Ct_of rfl (Nat.le_of_ble_eq_true rfl) (b_X4_tellLetter_0 hw9 (c_isName (i := 6) hw9 h1.1 h1.2.1 h1.2.2 (by decide) ?_))
  show G X (Rm (d + 5)) mX4_tellLetter 6 _ [.int (nI (if nmW T n q = 11 then 1 else 0))] _ 0 0 K
  generalize (if nmW T n q = 11 then 1 else 0) = b at *
  have hb2 := eb b rfl
  refine b_X4_tellLetter_6 hw9 (c_adv hw9 h1 (fun g1 n1 a1 => b_X4_tellLetter_11 hw9 (c_o3 (c := 97) hw9 a1.1 a1.2.1 a1.2.2 (by decide) ?_)))
  have cb1 : CFb g1 a F o h := hb.fr (fun z z1 z2 j => n1.1 z (by omega) j)
  by_cases z : o3 T n (tB T n q) 97 < 3
  · rw [o3I_p z]
    refine b_X4_tellLetter_17 (hw3_r2 := hw) (hc_placeOf := fun _ => ?_) (hw4_r0 := hw4) (hc_refuseToken := fun c => absurd (nI_pos' (by omega)) c)
    refine c_placeOf hw cb1 hI z ?_
    by_cases w : F (o + 4 + o3 T n (tB T n q) 97) = 0
    · rw [if_pos w]
      have e : pLet T n o b (tB T n q) F = .ok (tB T n (tB T n q), lt1 F o (o3 T n (tB T n q) 97) b) := by unfold pLet; rw [if_pos z, if_pos w]
      refine b_X4_tellLetter_36 (hw3_r2 := hw) (hc_putLetter := fun _ => ?_) (hw4_r0 := hw4) (hc_refuse := fun c => absurd (by decide) c)
      refine c_putLetter hw cb1 hI h2 z w hb2 (fun g2 n2 c2 => b_X4_tellLetter_53 hw9 ?_)
      have a2 : AT g2 x T n (tB T n q) := a1.fr (fun z hz j => n2 z (by omega) j)
      refine c_adv hw9 a2 (fun g3 n3 a3 => b_X4_tellLetter_57 (hO g3 _ e ?_ a3 (c2.fr (fun z z1 z2 j => n3.1 z (by omega) j))))
      exact fun z p r j => by rw [n3.1 z p, n2 z r, n1.1 z p]
    · rw [if_neg w]
      have e : pLet T n o b (tB T n q) F = .error (4, tA T n (tB T n q)) := by unfold pLet; rw [if_pos z, if_neg w]
      have i7 := hI.2.2.2.2.2.2.1 _ z
      have i1 := hI.1
      refine b_X4_tellLetter_36 (hw3_r2 := hw) (hc_putLetter := fun c => absurd c (nI_pos (by omega))) (hw4_r0 := hw4) (hc_refuse := fun _ => ?_)
      exact c_refuse (c := 4) hw4 hw9 a1 (fun g r1 r2 => b_X4_tellLetter_45 (hE g _ e (n1.fu.tr r1) r2) (Or.inl rfl))
  · rw [o3I_n z]
    have e : pLet T n o b (tB T n q) F = .error (rT T n (tB T n q)) := by unfold pLet; rw [if_neg z]
    refine b_X4_tellLetter_17 (hw3_r2 := hw) (hc_placeOf := fun c => absurd c (by decide)) (hw4_r0 := hw4) (hc_refuseToken := fun _ => ?_)
    exact c_refT hw4 hw9 a1 (fun g r1 r2 => b_X4_tellLetter_29 (hE g _ e (n1.fu.tr r1) r2) (Or.inl rfl))
theorem c_takeLetter (hw4 : WF4 μ (x + 3)) (hw9 : WF9 μ (x + 1)) (hw : WF3 μ a) (h1 : AT f x T n q) (hb : CFb f a F o h) (hI : IV F o h) (hE : ∀ g e, pTold T n F o q = .error e → FU f g x u → ER g x e → K (some (.int (-1))) (sI μ g)) (hO : ∀ g r, pTold T n F o q = .ok r → r.1 < 3 → NX f g x T n r.2 → AT g x T n r.2 → K (some (.int (nI r.1))) (sI μ g)) : Ct X (Rm (d + 1)) mX4_takeLetter [.ref (x + 3), .ref (x + 1), .ref a] (sI μ f) K := by
  refine Ct_of rfl (Nat.le_of_ble_eq_true rfl) (b_X4_takeLetter_0 hw9 (c_o3 (c := 97) hw9 h1.1 h1.2.1 h1.2.2 (by decide) ?_))
  by_cases z : o3 T n q 97 < 3
  · rw [o3I_p z]
    have i7 := hI.2.2.2.2.2.2.1 _ z
    have i1 := hI.1
    refine b_X4_takeLetter_6 (hw3_r2 := hw) (hc_placeOf := fun _ => ?_) (hw4_r0 := hw4) (hc_refuseToken := fun c => absurd (nI_pos' (by omega)) c)
    refine c_placeOf hw hb hI z ?_
    by_cases w : F (o + 4 + o3 T n q 97) = 0
    · rw [if_pos w]
      have e : pTold T n F o q = .error (4, tA T n q) := by unfold pTold; rw [if_pos z, if_pos w]
      refine b_X4_takeLetter_24 (hw9_r1 := hw9) (hc_advance := fun c => absurd c (by decide)) (hw4_r0 := hw4) (hc_refuse := fun _ => ?_)
      exact c_refuse (c := 4) hw4 hw9 h1 (fun g r1 r2 => b_X4_takeLetter_37 (b_X4_takeLetter_45 (hE g _ e r1 r2)))
    · rw [if_neg w]
      have e : pTold T n F o q = .ok (F (o + 4 + o3 T n q 97) - 1, tB T n q) := by unfold pTold; rw [if_pos z, if_neg w]
      refine b_X4_takeLetter_24 (hw9_r1 := hw9) (hc_advance := fun _ => ?_) (hw4_r0 := hw4) (hc_refuse := fun c => absurd (nI_pos' (by omega)) c)
      exact c_adv hw9 h1 (fun g r1 r2 => b_X4_takeLetter_45 (hO g _ e (by show F (o + 4 + o3 T n q 97) - 1 < 3; omega) r1 r2))
  · rw [o3I_n z]
    have e : pTold T n F o q = .error (rT T n q) := by unfold pTold; rw [if_neg z]
    refine b_X4_takeLetter_6 (hw3_r2 := hw) (hc_placeOf := fun c => absurd c (by decide)) (hw4_r0 := hw4) (hc_refuseToken := fun _ => ?_)
    exact c_refT hw4 hw9 h1 (fun g r1 r2 => b_X4_takeLetter_16 (hE g _ e r1 r2))
theorem c_itemKind (hw9 : WF9 μ (x + 1)) (h1 : AT f x T n q) (hK : K (some (.int (if nmW T n q ≤ 7 then nI (nmW T n q) else -1))) (sI μ f)) : Ct X (Rm (d + 5)) mX4_itemKind [.ref (x + 1)] (sI μ f) K := by
  have N : ∀ {i : Nat} {K' : Option Value → mM → Prop}, i < 13 → (nmW T n q = sW i → K' (some (.int (nI 1))) (sI μ f)) → (nmW T n q ≠ sW i → K' (some (.int (nI 0))) (sI μ f)) → Ct X (Rm (d + 4)) mX9_isName [.ref (x + 1), .ref (X.2.2.2.2.1 i)] (sI μ f) K' := fun {i K'} hi y1 y2 => by
    refine c_isName hw9 h1.1 h1.2.1 h1.2.2 hi ?_
    by_cases z : nmW T n q = sW i
    · rw [if_pos z]; exact y1 z
    · rw [if_neg z]; exact y2 z
  have Y : ∀ k, nmW T n q = k → k ≤ 7 → K (some (.int (nI k))) (sI μ f) := fun k e hk => by
    rw [e, if_pos hk] at hK; exact hK
  have n1 : ¬ nI 1 = 0 := by decide
  refine Ct_of rfl (Nat.le_of_ble_eq_true rfl) (b_X4_itemKind_0 hw9 (N (i := 2) (by decide) (fun z => ?_) (fun z0 => ?_)))
  · exact b_X4_itemKind_6 hw9 (fun c => absurd c n1) (fun _ => Y 0 z (by decide))
  refine b_X4_itemKind_6 hw9 (fun _ => N (i := 8) (by decide) (fun z => ?_) (fun z1 => ?_)) (fun c => absurd rfl c)
  · exact b_X4_itemKind_17 hw9 (fun c => absurd c n1) (fun _ => Y 1 z (by decide))
  refine b_X4_itemKind_17 hw9 (fun _ => N (i := 4) (by decide) (fun z => ?_) (fun z2 => ?_)) (fun c => absurd rfl c)
  · exact b_X4_itemKind_28 hw9 (fun c => absurd c n1) (fun _ => Y 2 z (by decide))
  refine b_X4_itemKind_28 hw9 (fun _ => N (i := 9) (by decide) (fun z => ?_) (fun z3 => ?_)) (fun c => absurd rfl c)
  · exact b_X4_itemKind_39 hw9 (fun c => absurd c n1) (fun _ => Y 3 z (by decide))
  refine b_X4_itemKind_39 hw9 (fun _ => N (i := 1) (by decide) (fun z => ?_) (fun z4 => ?_)) (fun c => absurd rfl c)
  · exact b_X4_itemKind_50 hw9 (fun c => absurd c n1) (fun _ => Y 4 z (by decide))
  refine b_X4_itemKind_50 hw9 (fun _ => N (i := 10) (by decide) (fun z => ?_) (fun z5 => ?_)) (fun c => absurd rfl c)
  · exact b_X4_itemKind_61 hw9 (fun c => absurd c n1) (fun _ => Y 5 z (by decide))
  refine b_X4_itemKind_61 hw9 (fun _ => N (i := 11) (by decide) (fun z => ?_) (fun z6 => ?_)) (fun c => absurd rfl c)
  · exact b_X4_itemKind_72 hw9 (fun c => absurd c n1) (fun _ => Y 6 z (by decide))
  refine b_X4_itemKind_72 hw9 (fun _ => N (i := 12) (by decide) (fun z => ?_) (fun z7 => ?_)) (fun c => absurd rfl c)
  · exact b_X4_itemKind_84 (fun c => absurd c n1) (fun _ => Y 7 z (by decide))
  refine b_X4_itemKind_84 (fun _ => ?_) (fun c => absurd rfl c)
  rw [if_neg (fun w => ?_)] at hK
  · exact hK
  · have d0 : nmW T n q ≠ 0 := z0
    have d1 : nmW T n q ≠ 1 := z1
    have d2 : nmW T n q ≠ 2 := z2
    have d3 : nmW T n q ≠ 3 := z3
    have d4 : nmW T n q ≠ 4 := z4
    have d5 : nmW T n q ≠ 5 := z5
    have d6 : nmW T n q ≠ 6 := z6
    have d7 : nmW T n q ≠ 7 := z7
    omega
theorem tkn_I (k : Nat) (hk : k ≤ 7) : e_X3_taken μ (nI k) = nI (tkn k) := by
  rcases (by omega : k = 0 ∨ k = 1 ∨ k = 2 ∨ k = 3 ∨ k = 4 ∨ k = 5 ∨ k = 6 ∨ k = 7) with e | e | e | e | e | e | e | e <;> (subst e; rfl)
theorem tkn_le (k : Nat) : tkn k ≤ 2 := by
  unfold tkn
  repeat' split
  all_goals omega
theorem c_putItem {k v w : Nat} (hw : WF3 μ a) (hb : CFb f a F o h) (hI : IV F o h) (hk : k ≤ 7) (h12 : F (o + 2) < 12) (ht : tkn k ≤ h) (hK : ∀ g, (∀ z, ¬ (a ≤ z ∧ z < a + 8) → ∀ j, g z j = f z j) → CFb g a (it1 F o k v w (h + 1 - tkn k)) o (h + 1 - tkn k) → K none (sI μ g)) : Ct X (Rm (d + 1)) mX3_putItem [.ref a, .int (nI k), .int (nI v), .int (nI w)] (sI μ f) K := by
  have e3 : f a 3 = nI (F (o + 2)) := hb.1.2.1
  have e7 : f a 7 = nI h := hb.2.1
  have e8 : f a 8 = nI (F (o + 3)) := hb.1.2.2.1
  have hl : h ≤ F (o + 2) := by have := hg_le F o (F (o + 2)); rw [hI.2.2.2.2.1] at this; exact this
  have tl := tkn_le k
  have i4 := hI.2.2.2.1
  have fl : e_X3_isFull (sI μ f) a = 0 := by
    unfold e_X3_isFull
    rw [iv_sI, e3, if_pos (show nI (F (o + 2)) < (12 : Int32) from nI_lt (b := 12) h12 (by decide))]
  have te : e_X3_taken (sI μ f) (nI k) ≤ iv (sI μ f) a 7 := by rw [tkn_I k hk, iv_sI, e7]; exact nI_le ht (by omega)
  refine Ct_of rfl (Nat.le_of_ble_eq_true rfl) (b_X3_putItem_0 (j0 := F (o + 2)) (j1 := F (o + 2)) (j2 := F (o + 2)) (hw3_r0 := hw) (hK := fun c => absurd fl c) (hi_j0 := fun _ _ => e3) (hb := fun _ _ => h12) (hi_j1 := fun _ _ => ?_) (hb_2 := fun _ _ => h12) (hi_j2 := fun _ _ => ?_) (hb_3 := fun _ _ => h12) (hK_2 := fun _ _ => ?_) (hK_3 := fun _ c => absurd te c))
  · rw [wi_sI, iv_sI, u2_x (by omega)]; exact e3
  · rw [wi_sI, wi_sI, iv_sI, u2_x (by omega), u2_x (by omega)]; exact e3
  · have g3 : u2 (u2 (u2 f (a + 3) (F (o + 2)) (nI k)) (a + 4) (F (o + 2)) (nI v)) (a + 5) (F (o + 2)) (nI w) a 3 = nI (F (o + 2)) := by rw [u2_x (by omega), u2_x (by omega), u2_x (by omega)]; exact e3
    have g7 : ∀ z, u2 (u2 (u2 (u2 f (a + 3) (F (o + 2)) (nI k)) (a + 4) (F (o + 2)) (nI v)) (a + 5) (F (o + 2)) (nI w)) a 3 z a 7 = nI h := fun z => by rw [u2_k (by decide), u2_x (by omega), u2_x (by omega), u2_x (by omega)]; exact e7
    have eh : nI h + ((1 : Int32) - nI (tkn k)) = nI (h + 1 - tkn k) := by
      rw [← pk_sub (a := h + 1) (b := tkn k) (by omega), ← nI_1, Int32.sub_eq_add_neg, Int32.sub_eq_add_neg, Int32.add_assoc]
    have l8 : ∀ y z, u2 (u2 (u2 (u2 (u2 f (a + 3) (F (o + 2)) (nI k)) (a + 4) (F (o + 2)) (nI v)) (a + 5) (F (o + 2)) (nI w)) a 3 y) a 7 z a 8 = nI (F (o + 3)) := fun y z => by rw [u2_k (by decide), u2_k (by decide), u2_x (by omega), u2_x (by omega), u2_x (by omega)]; exact e8
    rw [tkn_I k hk, wi_sI, wi_sI, wi_sI, iv_sI, g3, nI_1, wi_sI, iv_sI, g7, eh, wi_sI, iv_sI, l8, iv_sI, u2_s, mxI (by omega) (by omega), wi_sI]
    refine hK _ (fun z hz j => by rw [u2_x (by omega), u2_x (by omega), u2_x (by omega), u2_x (by omega), u2_x (by omega), u2_x (by omega)]) ⟨⟨?_, ?_, ?_, fun p hp => ?_, fun i hi => ?_⟩, ?_, fun p hp => ?_, fun m hm hn => ?_⟩
    · rw [u2_k (by decide), u2_k (by decide), u2_k (by decide), u2_x (by omega), u2_x (by omega), u2_x (by omega), it1_x (by omega) (by omega) (by omega)]; exact hb.1.1
    · rw [u2_k (by decide), u2_k (by decide), u2_s, it1_2]
    · rw [u2_s, it1_3]
    · rw [it1_x (by omega) (by omega) (by omega)] at hp
      unfold bitF
      rw [u2_x (by omega), u2_x (by omega), u2_x (by omega), u2_x (by omega), u2_x (by omega), u2_x (by omega), it1_x (by omega) (by omega) (by omega)]
      exact hb.1.2.2.2.1 p hp
    · rw [it1_2] at hi
      show _ = nI (it1 F o k v w (h + 1 - tkn k) (o + 8 + 3 * i)) ∧ _ = nI (it1 F o k v w (h + 1 - tkn k) (o + 8 + 3 * i + 1)) ∧ _ = nI (it1 F o k v w (h + 1 - tkn k) (o + 8 + 3 * i + 2))
      by_cases c : i = F (o + 2)
      · subst c
        rw [it1_k, it1_a, it1_b]
        refine ⟨?_, ?_, ?_⟩
        · rw [u2_x (by omega), u2_x (by omega), u2_x (by omega), u2_x (by omega), u2_x (by omega), u2_s]
        · rw [u2_x (by omega), u2_x (by omega), u2_x (by omega), u2_x (by omega), u2_s]
        · rw [u2_x (by omega), u2_x (by omega), u2_x (by omega), u2_s]
      · rw [it1_x (by omega) (by omega) (by omega), it1_x (by omega) (by omega) (by omega), it1_x (by omega) (by omega) (by omega)]
        have := hb.1.2.2.2.2 i (by omega)
        refine ⟨?_, ?_, ?_⟩
        · rw [u2_x (by omega), u2_x (by omega), u2_x (by omega), u2_x (by omega), u2_x (by omega), u2_k c]; exact this.1
        · rw [u2_x (by omega), u2_x (by omega), u2_x (by omega), u2_x (by omega), u2_k c, u2_x (by omega)]; exact this.2.1
        · rw [u2_x (by omega), u2_x (by omega), u2_x (by omega), u2_k c, u2_x (by omega), u2_x (by omega)]; exact this.2.2
    · rw [u2_k (by decide), u2_s]
    · rw [it1_x (by omega) (by omega) (by omega)] at hp
      obtain ⟨l, l1, l2, l3⟩ := hb.2.2.1 p hp
      refine ⟨l, l1, ?_, ?_⟩
      · rw [u2_x (by omega), u2_x (by omega), u2_x (by omega), u2_x (by omega), u2_x (by omega), u2_x (by omega)]; exact l2
      · rw [it1_x (by omega) (by omega) (by omega)]; exact l3
    · rw [it1_x (by omega) (by omega) (by omega)] at hn ⊢
      rw [u2_x (by omega), u2_x (by omega), u2_x (by omega), u2_x (by omega), u2_x (by omega), u2_x (by omega)]; exact hb.2.2.2 m hm hn
theorem c_takeItem (hw4 : WF4 μ (x + 3)) (hw9 : WF9 μ (x + 1)) (hw : WF3 μ a) (hu : x + 3 < u) (hua : u ≤ a) (hua2 : a + 8 ≤ u + 58) (h1 : AT f x T n q) (hb : CFb f a F o h) (hI : IV F o h) (hE : ∀ g e, pItem T n o q F h = .error e → FU f g x u → ER g x e → K (some (.int 0)) (sI μ g)) (hO : ∀ g r, pItem T n o q F h = .ok r → NF f g x a → AT g x T n r.1 → CFb g a r.2.1 o r.2.2 → K (some (.int 1)) (sI μ g)) : Ct X (Rm (d + 6)) mX4_takeItem [.ref (x + 3), .ref (x + 1), .ref a] (sI μ f) K := by
  have hl : h ≤ F (o + 2) := by have := hg_le F o (F (o + 2)); rw [hI.2.2.2.2.1] at this; exact this
  have i3 := hI.2.2.1
  refine Ct_of rfl (Nat.le_of_ble_eq_true rfl) (b_X4_takeItem_0 (c_itemKind hw9 h1 ?_))
  unfold pItem at hE hO
  by_cases z1 : nmW T n q ≤ 7
  · rw [if_pos z1]
    rw [if_neg (by omega)] at hE hO
    generalize nmW T n q = k at z1 hE hO ⊢
    have fe : (e_X3_isFull (sI μ f) a = 0) ↔ F (o + 2) ≠ 12 := by
      unfold e_X3_isFull
      have c : (iv (sI μ f) a 3 < (12 : Int32)) ↔ F (o + 2) < 12 := by rw [iv_sI, hb.1.2.1]; exact nI_ltI (b := 12) (by omega) (by decide)
      by_cases w : F (o + 2) < 12
      · rw [if_pos (c.mpr w)]; exact ⟨fun _ => by omega, fun _ => rfl⟩
      · rw [if_neg (fun v => w (c.mp v))]; exact ⟨fun v => absurd v (by decide), fun v => by omega⟩
    have tl := tkn_le k
    have he : (e_X3_hasEnoughFor (sI μ f) a (nI k) = 0) ↔ h < tkn k := by
      unfold e_X3_hasEnoughFor
      have c : (iv (sI μ f) a 7 < e_X3_taken (sI μ f) (nI k)) ↔ h < tkn k := by rw [tkn_I k z1, iv_sI, hb.2.1]; exact nI_ltI (by omega) (by omega)
      by_cases w : h < tkn k
      · rw [if_pos (c.mpr w)]; exact ⟨fun _ => w, fun _ => rfl⟩
      · rw [if_neg (fun v => w (c.mp v))]; exact ⟨fun v => absurd v (by decide), fun v => absurd v w⟩
    refine b_X4_takeItem_4 (hw3_r2 := hw) (hw9_r1 := hw9) (hc_advance := fun _ c1 c2 => ?_) (hw4_r0 := hw4) (hc_refuse := fun _ c1 c2 => ?_) (hc_refuse_2 := fun _ c1 => ?_) (hc_refuseToken := fun c => absurd (nI_pos' (by omega)) c)
    · rw [fe] at c1
      rw [he] at c2
      rw [if_neg c1, if_neg c2] at hE hO
      refine c_adv hw9 h1 (fun g1 n1 a1 => ?_)
      have cb1 : CFb g1 a F o h := hb.fr (fun z p r j => n1.1 z (by omega) j)
      -- the second one, then the item
      have S96 : ∀ g2 (v : Nat × Nat), pFst T n F o k (tB T n q) = .ok v → v.1 < 3 → NF f g2 x a → AT g2 x T n v.2 → CFb g2 a F o h → G X (Rm (d + 6)) mX4_takeItem 96 [(0, .ref (x + 3)), (1, .ref (x + 1)), (2, .ref a), (3, .int (nI k)), (4, .int (nI v.1)), (5, .int 0)] [] (sI μ g2) 0 0 K := fun g2 v ev v3 n2 a2 cb2 => by
        rw [bnd_o ev] at hE hO
        have k4 : ((4 : Int32) ≤ nI k) ↔ 4 ≤ k := nI_leI (a := 4) (by decide) (by omega)
        have P : ∀ g3 (w : Nat × Nat), pSnd T n F o k v.2 = .ok w → w.1 < 3 → NF f g3 x a → AT g3 x T n w.2 → CFb g3 a F o h → G X (Rm (d + 6)) mX4_takeItem 114 [(2, .ref a), (3, .int (nI k)), (4, .int (nI v.1)), (5, .int (nI w.1))] [] (sI μ g3) 0 0 K := fun g3 w ew w3 n3 a3 cb3 => by
          rw [bnd_o ew] at hO
          refine b_X4_takeItem_114 (hK := fun c => absurd c (nI_pos (by omega))) (hw3_r2 := hw) (hc_putItem := fun _ _ => ?_) (hK_2 := fun _ c => absurd (nI_pos' (by omega)) c)
          refine c_putItem hw cb3 hI z1 (by omega) (by omega) (fun g4 n4 cb4 => b_X4_takeItem_135 (hO g4 _ rfl ?_ (a3.fr (fun z hz j => n4 z (by omega) j)) cb4))
          exact fun z p r j => (n4 z r j).trans (n3 z p r j)
        refine b_X4_takeItem_96 (h := fun c => absurd c (nI_pos (by omega))) (h_2 := fun _ c => ?_) (hw4_r0 := hw4) (hc_takeLetter := fun _ c => ?_)
        · rw [k4] at c
          have ew : pSnd T n F o k v.2 = .ok (0, v.2) := if_neg (by omega)
          exact P g2 (0, v.2) ew (by show 0 < 3; decide) n2 a2 cb2
        · rw [k4] at c
          have ew : pSnd T n F o k v.2 = pTold T n F o v.2 := if_pos (by omega)
          refine c_takeLetter (u := u) hw4 hw9 hw a2 cb2 hI (fun g e d1 d2 d3 => b_X4_takeItem_112 ?_) (fun g3 w d1 d2 d3 d4 => b_X4_takeItem_112 ?_)
          · refine b_X4_takeItem_114 (hK := fun c => absurd c (nI_pos (by omega))) (hw3_r2 := hw) (hc_putItem := fun _ c => absurd c (by decide)) (hK_2 := fun _ _ => hE g e (bnd_e (ew.trans d1)) ((n2.fu hua hua2).tr d2) d3)
          · exact P g3 w (ew.trans d1) d2 (n2.tr d3.nf) d4 (cb2.fr (fun z p r j => d3.1 z (by omega) j))
      have E96 : ∀ g2 e, pFst T n F o k (tB T n q) = .error e → FU f g2 x u → ER g2 x e → G X (Rm (d + 6)) mX4_takeItem 96 [(0, .ref (x + 3)), (1, .ref (x + 1)), (2, .ref a), (3, .int (nI k)), (4, .int (-1)), (5, .int 0)] [] (sI μ g2) 0 0 K := fun g2 e ee d2 d3 => by
        refine b_X4_takeItem_96 (h := fun _ => ?_) (h_2 := fun c => absurd (by decide) c) (hw4_r0 := hw4) (hc_takeLetter := fun c => absurd (by decide) c)
        exact b_X4_takeItem_114 (hK := fun _ => hE g2 e (bnd_e ee) d2 d3) (hw3_r2 := hw) (hc_putItem := fun c => absurd (by decide) c) (hK_2 := fun c => absurd (by decide) c)
      have V : k < 2 → G X (Rm (d + 6)) mX4_takeItem 63 [(0, .ref (x + 3)), (1, .ref (x + 1)), (2, .ref a), (3, .int (nI k)), (5, .int 0)] [] (sI μ g1) 0 0 K := fun c => by
        have ew : pFst T n F o k (tB T n q) = pVar T n (tB T n q) := if_pos c
        refine b_X4_takeItem_63 hw4 (c_takeVar (u := u) hw4 hw9 a1 (fun g e d1 d2 d3 => b_X4_takeItem_68 (E96 g e (ew.trans d1) (n1.fu.tr d2) d3)) (fun g2 v d1 d2 d3 d4 => b_X4_takeItem_68 (S96 g2 v (ew.trans d1) d2 (n1.nf.tr d3.nf) d4 (cb1.fr (fun z p r j => d3.1 z (by omega) j)))))
      have L : 2 ≤ k → k < 5 → G X (Rm (d + 6)) mX4_takeItem 88 [(0, .ref (x + 3)), (1, .ref (x + 1)), (2, .ref a), (3, .int (nI k)), (5, .int 0)] [] (sI μ g1) 0 0 K := fun c c' => by
        have ew : pFst T n F o k (tB T n q) = pTold T n F o (tB T n q) := by unfold pFst; rw [if_neg (by omega), if_pos c']
        refine b_X4_takeItem_88 hw4 (c_takeLetter (u := u) hw4 hw9 hw a1 cb1 hI (fun g e d1 d2 d3 => b_X4_takeItem_94 (E96 g e (ew.trans d1) (n1.fu.tr d2) d3)) (fun g2 v d1 d2 d3 d4 => b_X4_takeItem_94 (S96 g2 v (ew.trans d1) d2 (n1.nf.tr d3.nf) d4 (cb1.fr (fun z p r j => d3.1 z (by omega) j)))))
      have eq : ∀ m, m < 2 ^ 31 → ((nI k = nI m) ↔ k = m) := fun m hm => nI_eq (by omega) hm
      refine b_X4_takeItem_48 (h := fun c => V (by have := (eq 0 (by decide)).mp c; omega)) (h_2 := fun _ _ c => L (by have := (eq 2 (by decide)).mp c; omega) (by have := (eq 2 (by decide)).mp c; omega)) (h_3 := fun _ _ _ c => L (by have := (eq 3 (by decide)).mp c; omega) (by have := (eq 3 (by decide)).mp c; omega)) (h_4 := fun b0 b1 b2 b3 b4 => ?_) (h_5 := fun _ _ _ _ c => L (by have := (eq 4 (by decide)).mp c; omega) (by have := (eq 4 (by decide)).mp c; omega)) (h_6 := fun _ c => V (by have := (eq 1 (by decide)).mp c; omega))
      have k0 : ¬ k = 0 := fun c => b0 ((eq 0 (by decide)).mpr c)
      have k1 : ¬ k = 1 := fun c => b1 ((eq 1 (by decide)).mpr c)
      have k2 : ¬ k = 2 := fun c => b2 ((eq 2 (by decide)).mpr c)
      have k3 : ¬ k = 3 := fun c => b3 ((eq 3 (by decide)).mpr c)
      have k4 : ¬ k = 4 := fun c => b4 ((eq 4 (by decide)).mpr c)
      have ew : pFst T n F o k (tB T n q) = .ok (0, tB T n q) := by unfold pFst; rw [if_neg (by omega), if_neg (by omega)]
      exact S96 g1 (0, tB T n q) ew (by show 0 < 3; decide) n1.nf a1 cb1
    · rw [fe] at c1
      rw [he] at c2
      rw [if_neg c1, if_pos c2] at hE
      exact c_refuse (c := 4) hw4 hw9 h1 (fun g r1 r2 => b_X4_takeItem_43 (hE g _ rfl r1 r2) (Or.inl rfl))
    · rw [fe] at c1
      rw [if_pos (Decidable.not_not.mp c1)] at hE
      exact c_refuse (c := 5) hw4 hw9 h1 (fun g r1 r2 => b_X4_takeItem_28 (hE g _ rfl r1 r2) (Or.inl rfl))
  · rw [if_neg z1]
    rw [if_pos (by omega)] at hE
    refine b_X4_takeItem_4 (hw3_r2 := hw) (hw9_r1 := hw9) (hc_advance := fun c => absurd c (by decide)) (hw4_r0 := hw4) (hc_refuse := fun c => absurd c (by decide)) (hc_refuse_2 := fun c => absurd c (by decide)) (hc_refuseToken := fun _ => ?_)
    exact c_refT hw4 hw9 h1 (fun g r1 r2 => b_X4_takeItem_14 (hE g _ rfl r1 r2) (Or.inl rfl))
end P60
