def cn (x : Nat) : Nat := if x = 0 then 0 else 1
/-- a formula in the middle, with h on its heap -/
def IV (F : Nat → Nat) (o h : Nat) : Prop := F o ≤ 3 ∧ F (o + 1) < 2 ^ F o ∧ F (o + 2) ≤ 12 ∧ F (o + 3) ≤ 12 ∧ hg F o (F (o + 2)) = h ∧ (∀ i, i < F (o + 2) → okIt F o (F o) i) ∧ (∀ l, l < 3 → F (o + 4 + l) ≤ F o) ∧ cn (F (o + 4)) + cn (F (o + 5)) + cn (F (o + 6)) = F o
theorem bitsL : ∀ L, L < 3 → ∀ B, B < 2 ^ L → ∀ b, b < 2 → (B ||| b * 2 ^ L) < 2 ^ (L + 1) ∧ ∀ q, q < L + 1 → (B ||| b * 2 ^ L) / 2 ^ q % 2 = if q = L then b else B / 2 ^ q % 2 := by decide
section P59
variable {F F' : Nat → Nat} {o l b k a h q n m : Nat} {T : Nat → Nat}
theorem lt1_l : lt1 F o l b (o + 4 + l) = F o + 1 := if_pos rfl
theorem lt1_1 : lt1 F o l b (o + 1) = F (o + 1) ||| b * 2 ^ F o := by unfold lt1; rw [if_neg (by omega), if_pos rfl]
theorem lt1_o : lt1 F o l b o = F o + 1 := by unfold lt1; rw [if_neg (by omega), if_neg (by omega), if_pos rfl]
theorem lt1_x {j : Nat} (h1 : j ≠ o + 4 + l) (h2 : j ≠ o + 1) (h3 : j ≠ o) : lt1 F o l b j = F j := by unfold lt1; rw [if_neg h1, if_neg h2, if_neg h3]
theorem it1_k : it1 F o k a b h (o + 8 + 3 * F (o + 2)) = k := if_pos rfl
theorem it1_a : it1 F o k a b h (o + 8 + 3 * F (o + 2) + 1) = a := by unfold it1; rw [if_neg (by omega), if_pos rfl]
theorem it1_b : it1 F o k a b h (o + 8 + 3 * F (o + 2) + 2) = b := by unfold it1; rw [if_neg (by omega), if_neg (by omega), if_pos rfl]
theorem it1_2 : it1 F o k a b h (o + 2) = F (o + 2) + 1 := by unfold it1; rw [if_neg (by omega), if_neg (by omega), if_neg (by omega), if_pos rfl]
theorem it1_3 : it1 F o k a b h (o + 3) = max (F (o + 3)) h := by unfold it1; rw [if_neg (by omega), if_neg (by omega), if_neg (by omega), if_neg (by omega), if_pos rfl]
theorem it1_x {j : Nat} (h1 : j < o + 8 + 3 * F (o + 2) ∨ o + 8 + 3 * F (o + 2) + 2 < j) (h2 : j ≠ o + 2) (h3 : j ≠ o + 3) : it1 F o k a b h j = F j := by unfold it1; rw [if_neg (by omega), if_neg (by omega), if_neg (by omega), if_neg h2, if_neg h3]
theorem hg_cg : ∀ i, (∀ j, j < i → F' (o + 8 + 3 * j) = F (o + 8 + 3 * j)) → hg F' o i = hg F o i
  | 0, _ => rfl
  | i + 1, hh => by
    have e := hg_cg i (fun j hj => hh j (by omega))
    have e2 := hh i (by omega)
    unfold hg
    rw [e]
    show (if F' (o + 8 + 3 * i) < 5 then _ else if F' (o + 8 + 3 * i) = 5 then _ else _) = _
    rw [e2]
theorem okIt_cg {L i : Nat} (h1 : ∀ j, o + 8 ≤ j → j ≤ o + 8 + 3 * i + 2 → F' j = F j) (hh : okIt F o L i) : okIt F' o L i := by
  unfold okIt at hh ⊢
  rw [show hg F' o i = hg F o i from hg_cg i (fun j hj => h1 _ (by omega) (by omega))]
  show F' (o + 8 + 3 * i) ≤ 7 ∧ (F' (o + 8 + 3 * i) = 5 → _) ∧ (6 ≤ F' (o + 8 + 3 * i) → _) ∧ (F' (o + 8 + 3 * i) < 2 → F' (o + 8 + 3 * i + 1) < 3) ∧ (2 ≤ F' (o + 8 + 3 * i) → F' (o + 8 + 3 * i) < 5 → F' (o + 8 + 3 * i + 1) < L) ∧ (F' (o + 8 + 3 * i) < 4 → F' (o + 8 + 3 * i + 2) < L)
  rw [h1 _ (by omega) (by omega), h1 _ (by omega) (by omega), h1 _ (by omega) (by omega)]
  exact hh
theorem cn_0 {x : Nat} (h : x = 0) : cn x = 0 := if_pos h
theorem cn_1 {x : Nat} (h : x ≠ 0) : cn x = 1 := if_neg h
theorem cn_le (x : Nat) : cn x ≤ 1 := by unfold cn; split <;> omega
theorem IV_lt1 (hI : IV F o h) (h2 : F (o + 2) = 0) (hl : l < 3) (hz : F (o + 4 + l) = 0) (hb : b < 2) : IV (lt1 F o l b) o h ∧ lt1 F o l b (o + 2) = 0 ∧ F o < 3 := by
  obtain ⟨i1, i2, i3, i4, i5, i6, i7, i8⟩ := hI
  have c4 := cn_le (F (o + 4))
  have c5 := cn_le (F (o + 5))
  have c6 := cn_le (F (o + 6))
  have lt : F o < 3 := by
    rcases (by omega : l = 0 ∨ l = 1 ∨ l = 2) with e | e | e
    · rw [e] at hz; have : cn (F (o + 4)) = 0 := cn_0 hz; omega
    · rw [e] at hz; have : cn (F (o + 5)) = 0 := cn_0 hz; omega
    · rw [e] at hz; have : cn (F (o + 6)) = 0 := cn_0 hz; omega
  have e2 : lt1 F o l b (o + 2) = 0 := by rw [lt1_x (by omega) (by omega) (by omega)]; exact h2
  have bb := bitsL (F o) lt (F (o + 1)) i2 b hb
  refine ⟨⟨by rw [lt1_o]; omega, by rw [lt1_1, lt1_o]; exact bb.1, by rw [e2]; omega, by rw [lt1_x (by omega) (by omega) (by omega)]; exact i4, ?_, fun i hi => by rw [e2] at hi; omega, fun j hj => ?_, ?_⟩, e2, lt⟩
  · rw [e2]
    rw [h2] at i5
    exact i5
  · rw [lt1_o]
    by_cases c : j = l
    · rw [c, lt1_l]; omega
    · rw [lt1_x (by omega) (by omega) (by omega)]; have := i7 j hj; omega
  · rw [lt1_o]
    rcases (by omega : l = 0 ∨ l = 1 ∨ l = 2) with e | e | e
    · subst e
      have e4 : lt1 F o 0 b (o + 4) = F o + 1 := lt1_l
      rw [e4, lt1_x (by omega) (by omega) (by omega), lt1_x (by omega) (by omega) (by omega), cn_1 (by omega)]
      have := cn_0 (x := F (o + 4)) hz
      omega
    · subst e
      have e4 : lt1 F o 1 b (o + 5) = F o + 1 := lt1_l
      rw [e4, lt1_x (by omega) (by omega) (by omega), lt1_x (by omega) (by omega) (by omega), cn_1 (x := F o + 1) (by omega)]
      have := cn_0 (x := F (o + 5)) hz
      omega
    · subst e
      have e4 : lt1 F o 2 b (o + 6) = F o + 1 := lt1_l
      rw [e4, lt1_x (by omega) (by omega) (by omega), lt1_x (by omega) (by omega) (by omega), cn_1 (x := F o + 1) (by omega)]
      have := cn_0 (x := F (o + 6)) hz
      omega
theorem IV_it1 (hI : IV F o h) (hk : k ≤ 7) (h12 : F (o + 2) < 12) (ht : tkn k ≤ h) (ha : k < 2 → a < 3) (ha2 : 2 ≤ k → k < 5 → a < F o) (hb : k < 4 → b < F o) : IV (it1 F o k a b (h + 1 - tkn k)) o (h + 1 - tkn k) := by
  obtain ⟨i1, i2, i3, i4, i5, i6, i7, i8⟩ := hI
  have hl := hg_le F o (F (o + 2))
  have lo : ∀ j, j < o + 8 → j ≠ o + 2 → j ≠ o + 3 → it1 F o k a b (h + 1 - tkn k) j = F j := fun j a b c => it1_x (by omega) b c
  have mid : ∀ j, o + 8 ≤ j → j < o + 8 + 3 * F (o + 2) → it1 F o k a b (h + 1 - tkn k) j = F j := fun j a b => it1_x (by omega) (by omega) (by omega)
  have eh : hg (it1 F o k a b (h + 1 - tkn k)) o (F (o + 2)) = h := by rw [hg_cg (F := F) _ (fun j hj => mid _ (by omega) (by omega))]; exact i5
  refine ⟨by rw [lo o (by omega) (by omega) (by omega)]; exact i1, by rw [lo o (by omega) (by omega) (by omega), lo (o + 1) (by omega) (by omega) (by omega)]; exact i2, by rw [it1_2]; omega, by rw [it1_3]; omega, ?_, fun i hi => ?_, fun j hj => by rw [lo o (by omega) (by omega) (by omega), lo (o + 4 + j) (by omega) (by omega) (by omega)]; exact i7 j hj, by rw [lo o (by omega) (by omega) (by omega), lo (o + 4) (by omega) (by omega) (by omega), lo (o + 5) (by omega) (by omega) (by omega), lo (o + 6) (by omega) (by omega) (by omega)]; exact i8⟩
  · rw [it1_2]
    unfold hg
    rw [eh]
    show (if it1 F o k a b (h + 1 - tkn k) (o + 8 + 3 * F (o + 2)) < 5 then h + 1 else if it1 F o k a b (h + 1 - tkn k) (o + 8 + 3 * F (o + 2)) = 5 then h else h - 1) = _
    rw [it1_k]
    unfold tkn
    split
    · rw [if_neg (by omega), if_neg (by omega)]; omega
    · split
      · omega
      · rw [if_pos (by omega)]; omega
  · rw [lo o (by omega) (by omega) (by omega)]
    rw [it1_2] at hi
    by_cases c : i = F (o + 2)
    · subst c
      unfold okIt
      rw [eh]
      show it1 F o k a b (h + 1 - tkn k) (o + 8 + 3 * F (o + 2)) ≤ 7 ∧ (it1 F o k a b (h + 1 - tkn k) (o + 8 + 3 * F (o + 2)) = 5 → 1 ≤ h) ∧ (6 ≤ it1 F o k a b (h + 1 - tkn k) (o + 8 + 3 * F (o + 2)) → 2 ≤ h) ∧ (it1 F o k a b (h + 1 - tkn k) (o + 8 + 3 * F (o + 2)) < 2 → it1 F o k a b (h + 1 - tkn k) (o + 8 + 3 * F (o + 2) + 1) < 3) ∧ (2 ≤ it1 F o k a b (h + 1 - tkn k) (o + 8 + 3 * F (o + 2)) → it1 F o k a b (h + 1 - tkn k) (o + 8 + 3 * F (o + 2)) < 5 → it1 F o k a b (h + 1 - tkn k) (o + 8 + 3 * F (o + 2) + 1) < F o) ∧ (it1 F o k a b (h + 1 - tkn k) (o + 8 + 3 * F (o + 2)) < 4 → it1 F o k a b (h + 1 - tkn k) (o + 8 + 3 * F (o + 2) + 2) < F o)
      rw [it1_k, it1_a, it1_b]
      unfold tkn at ht
      refine ⟨hk, fun e => ?_, fun e => ?_, ha, ha2, hb⟩
      · rw [if_pos e] at ht; exact ht
      · rw [if_neg (by omega), if_pos (by omega)] at ht; exact ht
    · exact okIt_cg (fun j j1 j2 => mid j j1 (by omega)) (i6 i (by omega))
theorem pVar_ok {r : Nat × Nat} (hq : q ≤ n) (h : pVar T n q = .ok r) : r.1 < 3 ∧ r.2 = tB T n q ∧ q < r.2 ∧ r.2 ≤ n := by
  unfold pVar at h
  by_cases z : o3 T n q 120 < 3
  · rw [if_pos z] at h
    injection h with h
    subst h
    have k := (o3_1 z).1
    have := tK_n0 (T := T) hq (by omega)
    have a := tA_b (T := T) hq
    exact ⟨z, rfl, by show q < tB T n q; omega, (tB_b hq).2⟩
  · rw [if_neg z] at h; exact absurd h (by intro w; injection w)
theorem pNod_ok {r : Nat × Nat} (hq : q ≤ n) (h : pNod T n q = .ok r) : r.1 < 6 ∧ r.2 = tB T n q ∧ q < r.2 ∧ r.2 ≤ n := by
  unfold pNod at h
  by_cases z : tK T n q = 2
  · rw [if_pos z] at h
    by_cases w : num T n q < 6
    · rw [if_pos w] at h
      injection h with h
      subst h
      have := tK_n0 (T := T) hq (by omega)
      have a := tA_b (T := T) hq
      exact ⟨w, rfl, by show q < tB T n q; omega, (tB_b hq).2⟩
    · rw [if_neg w] at h; exact absurd h (by intro w; injection w)
  · rw [if_neg z] at h; exact absurd h (by intro w; injection w)
theorem pTru_ok (hq : q ≤ n) : ((pTru T n q).1 = 1 ∨ (pTru T n q).1 = 2) ∧ q ≤ (pTru T n q).2 ∧ (pTru T n q).2 ≤ n := by
  unfold pTru
  have a := tA_b (T := T) hq
  have b := tB_b (T := T) hq
  split
  · exact ⟨Or.inl rfl, by show q ≤ tB T n q; omega, b.2⟩
  · exact ⟨Or.inr rfl, Nat.le_refl _, hq⟩
theorem pSgn_ok {r : Nat} (hq : q ≤ n) (hk : k ≠ 0) (h : pSgn T n k q = .ok r) : tK T n q = k ∧ r = tB T n q ∧ q < r ∧ r ≤ n := by
  unfold pSgn at h
  by_cases z : tK T n q = k
  · rw [if_pos z] at h
    injection h with h
    subst h
    have := tK_n0 (T := T) hq (by omega)
    have a := tA_b (T := T) hq
    exact ⟨z, rfl, by omega, (tB_b hq).2⟩
  · rw [if_neg z] at h; exact absurd h (by intro w; injection w)
theorem pTold_ok {r : Nat × Nat} (hq : q ≤ n) (hI : ∀ l, l < 3 → F (o + 4 + l) ≤ F o) (h : pTold T n F o q = .ok r) : r.1 < F o ∧ r.2 = tB T n q ∧ q < r.2 ∧ r.2 ≤ n := by
  unfold pTold at h
  by_cases z : o3 T n q 97 < 3
  · rw [if_pos z] at h
    by_cases w : F (o + 4 + o3 T n q 97) = 0
    · rw [if_pos w] at h; exact absurd h (by intro w; injection w)
    · rw [if_neg w] at h
      injection h with h
      subst h
      have k := (o3_1 z).1
      have := tK_n0 (T := T) hq (by omega)
      have a := tA_b (T := T) hq
      have i := hI _ z
      exact ⟨by show F (o + 4 + o3 T n q 97) - 1 < F o; omega, rfl, by show q < tB T n q; omega, (tB_b hq).2⟩
  · rw [if_neg z] at h; exact absurd h (by intro w; injection w)
theorem pLet_ok {r : Nat × (Nat → Nat)} (hq : q ≤ n) (hI : IV F o h) (h2 : F (o + 2) = 0) (hb : b < 2) (hh : pLet T n o b q F = .ok r) : IV r.2 o h ∧ r.2 (o + 2) = 0 ∧ q < r.1 ∧ r.1 ≤ n ∧ (∀ j, (j < o ∨ o + 48 ≤ j) → r.2 j = F j) ∧ r.2 o = F o + 1 := by
  unfold pLet at hh
  by_cases z : o3 T n q 97 < 3
  · rw [if_pos z] at hh
    by_cases w : F (o + 4 + o3 T n q 97) = 0
    · rw [if_pos w] at hh
      injection hh with hh
      subst hh
      have k := (o3_1 z).1
      have := tK_n0 (T := T) hq (by omega)
      have a := tA_b (T := T) hq
      have i := IV_lt1 (b := b) hI h2 z w hb
      exact ⟨i.1, i.2.1, by show q < tB T n q; omega, (tB_b hq).2, fun j hj => lt1_x (by omega) (by omega) (by omega), lt1_o⟩
    · rw [if_neg w] at hh; exact absurd hh (by intro w; injection w)
  · rw [if_neg z] at hh; exact absurd hh (by intro w; injection w)
theorem pFst_ok {r : Nat × Nat} (hq : q ≤ n) (hI : IV F o h) (hh : pFst T n F o k q = .ok r) : (k < 2 → r.1 < 3) ∧ (2 ≤ k → k < 5 → r.1 < F o) ∧ q ≤ r.2 ∧ r.2 ≤ n ∧ (5 ≤ k → r.1 = 0) := by
  unfold pFst at hh
  by_cases z : k < 2
  · rw [if_pos z] at hh
    have := pVar_ok hq hh
    exact ⟨fun _ => this.1, fun _ => by omega, by omega, this.2.2.2, fun _ => by omega⟩
  · rw [if_neg z] at hh
    by_cases w : k < 5
    · rw [if_pos w] at hh
      have := pTold_ok hq hI.2.2.2.2.2.2.1 hh
      exact ⟨fun _ => by omega, fun _ _ => this.1, by omega, this.2.2.2, fun _ => by omega⟩
    · rw [if_neg w] at hh
      injection hh with hh
      subst hh
      exact ⟨fun _ => by omega, fun _ => by omega, Nat.le_refl _, hq, fun _ => rfl⟩
theorem pSnd_ok {r : Nat × Nat} (hq : q ≤ n) (hI : IV F o h) (hh : pSnd T n F o k q = .ok r) : (k < 4 → r.1 < F o) ∧ q ≤ r.2 ∧ r.2 ≤ n ∧ (4 ≤ k → r.1 = 0) := by
  unfold pSnd at hh
  by_cases w : k < 4
  · rw [if_pos w] at hh
    have := pTold_ok hq hI.2.2.2.2.2.2.1 hh
    exact ⟨fun _ => this.1, by omega, this.2.2.2, fun _ => by omega⟩
  · rw [if_neg w] at hh
    injection hh with hh
    subst hh
    exact ⟨fun _ => by omega, Nat.le_refl _, hq, fun _ => rfl⟩
theorem bnd_ok {α β : Type} {e : oE α} {k : α → oE β} {r : β} (h : bnd e k = .ok r) : ∃ a, e = .ok a ∧ k a = .ok r := by
  cases e with
  | error x => exact absurd h (by intro w; injection w)
  | ok a => exact ⟨a, rfl, h⟩
theorem pItem_ok {r : Nat × (Nat → Nat) × Nat} (hq : q ≤ n) (hI : IV F o h) (hh : pItem T n o q F h = .ok r) : IV r.2.1 o r.2.2 ∧ q < r.1 ∧ r.1 ≤ n ∧ (∀ j, (j < o ∨ o + 48 ≤ j) → r.2.1 j = F j) ∧ r.2.1 (o + 2) = F (o + 2) + 1 := by
  unfold pItem at hh
  by_cases z1 : 7 < nmW T n q
  · rw [if_pos z1] at hh; exact absurd hh (by intro w; injection w)
  · rw [if_neg z1] at hh
    by_cases z2 : F (o + 2) = 12
    · rw [if_pos z2] at hh; exact absurd hh (by intro w; injection w)
    · rw [if_neg z2] at hh
      by_cases z3 : h < tkn (nmW T n q)
      · rw [if_pos z3] at hh; exact absurd hh (by intro w; injection w)
      · rw [if_neg z3] at hh
        obtain ⟨a, ea, hh⟩ := bnd_ok hh
        obtain ⟨b, eb, hh⟩ := bnd_ok hh
        injection hh with hh
        subst hh
        have k1 := nmW_1 (T := T) (n := n) (q := q) (by omega)
        have t0 := tK_n0 (T := T) hq (by omega)
        have aB := tA_b (T := T) hq
        have bB := tB_b (T := T) hq
        have fa := pFst_ok bB.2 hI ea
        have fb := pSnd_ok fa.2.2.2.1 hI eb
        have i3 := hI.2.2.1
        refine ⟨IV_it1 hI (by omega) (by omega) (by omega) fa.1 fa.2.1 fb.1, ?_, fb.2.2.1, fun j hj => it1_x (by omega) (by omega) (by omega), it1_2⟩
        show q < b.2
        have := fa.2.2.1
        have := fb.2.1
        omega
theorem pLets_ok : ∀ (m q : Nat) (F : Nat → Nat) (r : Nat × (Nat → Nat)), q ≤ n → IV F o h → F (o + 2) = 0 → pLets T n o m q F = .ok r → IV r.2 o h ∧ r.2 (o + 2) = 0 ∧ q ≤ r.1 ∧ r.1 ≤ n ∧ ∀ j, (j < o ∨ o + 48 ≤ j) → r.2 j = F j := by
  intro m
  induction m with
  | zero =>
    intro q F r hq hI h2 hh
    injection hh with hh
    subst hh
    exact ⟨hI, h2, Nat.le_refl _, hq, fun _ _ => rfl⟩
  | succ m ih =>
    intro q F r hq hI h2 hh
    rw [pLets_s] at hh
    by_cases z : nmW T n q = 11 ∨ nmW T n q = 12
    · rw [if_pos z] at hh
      obtain ⟨r1, e1, hh⟩ := bnd_ok hh
      have aB := tA_b (T := T) hq
      have bB := tB_b (T := T) hq
      have p1 := pLet_ok bB.2 hI h2 (by split <;> decide) e1
      have p2 := ih r1.1 r1.2 r p1.2.2.2.1 p1.1 p1.2.1 hh
      exact ⟨p2.1, p2.2.1, by omega, p2.2.2.2.1, fun j hj => (p2.2.2.2.2 j hj).trans (p1.2.2.2.2.1 j hj)⟩
    · rw [if_neg z] at hh
      injection hh with hh
      subst hh
      exact ⟨hI, h2, Nat.le_refl _, hq, fun _ _ => rfl⟩
theorem pIts_ok : ∀ (m q : Nat) (F : Nat → Nat) (h : Nat) (r : Nat × (Nat → Nat) × Nat), q ≤ n → IV F o h → pIts T n o m q F h = .ok r → IV r.2.1 o r.2.2 ∧ q ≤ r.1 ∧ r.1 ≤ n ∧ ∀ j, (j < o ∨ o + 48 ≤ j) → r.2.1 j = F j := by
  intro m
  induction m with
  | zero =>
    intro q F h r hq hI hh
    injection hh with hh
    subst hh
    exact ⟨hI, Nat.le_refl _, hq, fun _ _ => rfl⟩
  | succ m ih =>
    intro q F h r hq hI hh
    rw [pIts_s] at hh
    by_cases z : tK T n q = 3
    · rw [if_pos z] at hh
      injection hh with hh
      subst hh
      exact ⟨hI, Nat.le_refl _, hq, fun _ _ => rfl⟩
    · rw [if_neg z] at hh
      obtain ⟨r1, e1, hh⟩ := bnd_ok hh
      have p1 := pItem_ok hq hI e1
      have p2 := ih r1.1 r1.2.1 r1.2.2 r p1.2.2.1 p1.1 hh
      exact ⟨p2.1, by omega, p2.2.2.1, fun j hj => (p2.2.2.2 j hj).trans (p1.2.2.2.1 j hj)⟩
/-- the page in the middle -/
def okDr (p : Nat → Nat) (g : Nat) : Prop := (p 60 ≤ 6 ∧ g ≤ 6) ∧ (∀ i, i < 6 → p i ≤ 1) ∧ (∀ v i, v < 3 → i < 6 → p (6 + 6 * v + i) ≤ 2) ∧ (∀ i j, i < 6 → j < 6 → p (24 + 6 * i + j) ≤ 2) ∧ (∀ i, p 60 ≤ i → i < 6 → p i = 0) ∧ (∀ v i, v < 3 → g ≤ i → i < 6 → p (6 + 6 * v + i) = 0) ∧ ∀ i j, i < 6 → j < 6 → (g ≤ i ∨ g ≤ j) → p (24 + 6 * i + j) = 0
theorem okDr_end {p : Nat → Nat} {g : Nat} (h : okDr p g) (hg : g ≤ p 60) : okP p := ⟨h.1.1, h.2.1, h.2.2.1, h.2.2.2.1, fun i h1 h2 => ⟨h.2.2.2.2.1 i h1 h2, fun v hv => h.2.2.2.2.2.1 v i hv (by omega) h2, fun j hj => ⟨h.2.2.2.2.2.2 i j h2 hj (Or.inl (by omega)), h.2.2.2.2.2.2 j i hj h2 (Or.inr (by omega))⟩⟩⟩
theorem okDr_app {p : Nat → Nat} {g m : Nat} (h : okDr p g) (h6 : p 60 < 6) (hm : m ≤ 1) : okDr (app p m) g := by
  obtain ⟨h1, h2, h3, h4, h5, h7, h8⟩ := h
  refine ⟨⟨by rw [app_60]; omega, h1.2⟩, fun i hi => ?_, fun v i hv hi => ?_, fun i j hi hj => ?_, fun i a b => ?_, fun v i hv a b => ?_, fun i j hi hj a => ?_⟩
  · by_cases c : i = p 60
    · rw [c, app_n h6]; exact hm
    · rw [app_ne (by omega) c]; exact h2 i hi
  · rw [app_ne (by omega) (by omega)]; exact h3 v i hv hi
  · rw [app_ne (by omega) (by omega)]; exact h4 i j hi hj
  · rw [app_60] at a
    rw [app_ne (by omega) (by omega)]; exact h5 i (by omega) b
  · rw [app_ne (by omega) (by omega)]; exact h7 v i hv a b
  · rw [app_ne (by omega) (by omega)]; exact h8 i j hi hj a
theorem okDr_at {p : Nat → Nat} {g v i t : Nat} (h : okDr p g) (hv : v < 3) (hi : i < 6) (ht : t ≤ 2) : okDr (upd1 p (6 + 6 * v + i) t) (max g (i + 1)) := by
  obtain ⟨h1, h2, h3, h4, h5, h7, h8⟩ := h
  have e : ∀ k, k ≠ 6 + 6 * v + i → upd1 p (6 + 6 * v + i) t k = p k := fun k hk => upd1_n hk
  refine ⟨⟨by rw [e _ (by omega)]; exact h1.1, by omega⟩, fun k hk => by rw [e _ (by omega)]; exact h2 k hk, fun w k hw hk => ?_, fun k j hk hj => by rw [e _ (by omega)]; exact h4 k j hk hj, fun k a b => ?_, fun w k hw a b => ?_, fun k j hk hj a => ?_⟩
  · by_cases c : 6 + 6 * w + k = 6 + 6 * v + i
    · rw [c, upd1_s]; exact ht
    · rw [e _ c]; exact h3 w k hw hk
  · rw [e _ (by omega)] at a
    rw [e _ (by omega)]; exact h5 k a b
  · rw [e _ (by omega)]; exact h7 w k hw (by omega) b
  · rw [e _ (by omega)]; exact h8 k j hk hj (by omega)
theorem okDr_nx {p : Nat → Nat} {g i j t : Nat} (h : okDr p g) (hi : i < 6) (hj : j < 6) (ht : t ≤ 2) : okDr (upd1 p (24 + 6 * i + j) t) (max (max g (i + 1)) (j + 1)) := by
  obtain ⟨h1, h2, h3, h4, h5, h7, h8⟩ := h
  have e : ∀ k, k ≠ 24 + 6 * i + j → upd1 p (24 + 6 * i + j) t k = p k := fun k hk => upd1_n hk
  refine ⟨⟨by rw [e _ (by omega)]; exact h1.1, by omega⟩, fun k hk => by rw [e _ (by omega)]; exact h2 k hk, fun w k hw hk => by rw [e _ (by omega)]; exact h3 w k hw hk, fun k r hk hr => ?_, fun k a b => ?_, fun w k hw a b => ?_, fun k r hk hr a => ?_⟩
  · by_cases c : 24 + 6 * k + r = 24 + 6 * i + j
    · rw [c, upd1_s]; exact ht
    · rw [e _ c]; exact h4 k r hk hr
  · rw [e _ (by omega)] at a
    rw [e _ (by omega)]; exact h5 k a b
  · rw [e _ (by omega)]; exact h7 w k hw (by omega) b
  · rw [e _ (by omega)]; exact h8 k r hk hr (by omega)
def SI (n : Nat) (s : pS) : Prop := s.1 ≤ n ∧ okDr s.2.1 s.2.2.2.2 ∧ s.2.2.2.1 ≤ 4 ∧ (∀ k, k < s.2.2.2.1 → okF s.2.2.1 (48 * k) ∧ s.2.2.1 (48 * k + 1) < 2 ^ s.2.2.1 (48 * k)) ∧ ∀ k, 48 * s.2.2.2.1 ≤ k → s.2.2.1 k = 0
theorem IV_0 (hz : ∀ k, o ≤ k → F k = 0) : IV F o 0 := by
  have z := fun j => hz (o + j) (by omega)
  have e0 : F o = 0 := z 0
  have e2 : F (o + 2) = 0 := z 2
  refine ⟨by omega, by rw [z 1, e0]; decide, by omega, by rw [z 3]; omega, by rw [e2]; rfl, fun i hi => by omega, fun l hl => by rw [hz _ (by omega)]; omega, ?_⟩
  rw [cn_0 (z 4), cn_0 (z 5), cn_0 (z 6), e0]
theorem okF_cg (h1 : ∀ j, o ≤ j → j < o + 48 → F' j = F j) (hh : okF F o ∧ F (o + 1) < 2 ^ F o) : okF F' o ∧ F' (o + 1) < 2 ^ F' o := by
  obtain ⟨⟨a1, a2, a3, a4, a5, a6⟩, a7⟩ := hh
  have e0 := h1 o (by omega) (by omega)
  have e1 := h1 (o + 1) (by omega) (by omega)
  have e2 := h1 (o + 2) (by omega) (by omega)
  have e3 := h1 (o + 3) (by omega) (by omega)
  unfold okF
  rw [e0, e1, e2, e3]
  refine ⟨⟨a1, a2, a3, a4, ?_, fun i hi => okIt_cg (fun j j1 j2 => h1 j (by omega) (by omega)) (a6 i hi)⟩, a7⟩
  rw [hg_cg (F := F) _ (fun j hj => h1 _ (by omega) (by omega))]; exact a5
theorem pLine_ok {s r : pS} (hS : SI n s) (hh : pLine T n s = .ok r) : SI n r ∧ s.1 < r.1 := by
  obtain ⟨hq, hp, hm, hf, hz⟩ := hS
  have aB := tA_b (T := T) hq
  have bB := tB_b (T := T) hq
  have nt : nmW T n s.1 < 13 → s.1 < tB T n s.1 := fun z => by
    have := tK_n0 (T := T) hq (by rw [nmW_1 z]; decide)
    omega
  have ND : ∀ m, m ≤ 1 → nmW T n s.1 < 13 → pNodeL T n m s = .ok r → SI n r ∧ s.1 < r.1 := fun m hm1 hw hh => by
    unfold pNodeL at hh
    by_cases z : s.2.1 60 = 6
    · rw [if_pos z] at hh; exact absurd hh (by intro w; injection w)
    · rw [if_neg z] at hh
      obtain ⟨q1, e1, hh⟩ := bnd_ok hh
      injection hh with hh
      subst hh
      have p1 := pSgn_ok bB.2 (by decide) e1
      have := nt hw
      exact ⟨⟨p1.2.2.2, okDr_app hp (by have := hp.1.1; omega) hm1, hm, hf, hz⟩, by show s.1 < q1; omega⟩
  unfold pLine at hh
  by_cases z1 : nmW T n s.1 = 8
  · rw [if_pos z1] at hh
    exact ND 0 (by decide) (by omega) hh
  rw [if_neg z1] at hh
  by_cases z2 : nmW T n s.1 = 4
  · rw [if_pos z2] at hh
    exact ND 1 (by decide) (by omega) hh
  rw [if_neg z2] at hh
  by_cases z3 : nmW T n s.1 = 0
  · rw [if_pos z3] at hh
    obtain ⟨v, e1, hh⟩ := bnd_ok hh
    obtain ⟨i, e2, hh⟩ := bnd_ok hh
    obtain ⟨q1, e3, hh⟩ := bnd_ok hh
    injection hh with hh
    subst hh
    have p1 := pVar_ok bB.2 e1
    have p2 := pNod_ok p1.2.2.2 e2
    have p3 := pTru_ok (T := T) p2.2.2.2
    have p4 := pSgn_ok p3.2.2 (by decide) e3
    have := nt (by omega)
    exact ⟨⟨p4.2.2.2, okDr_at hp p1.1 p2.1 (by omega), hm, hf, hz⟩, by show s.1 < q1; omega⟩
  rw [if_neg z3] at hh
  by_cases z4 : nmW T n s.1 = 2
  · rw [if_pos z4] at hh
    obtain ⟨v, e1, hh⟩ := bnd_ok hh
    obtain ⟨i, e2, hh⟩ := bnd_ok hh
    obtain ⟨q1, e3, hh⟩ := bnd_ok hh
    injection hh with hh
    subst hh
    have p1 := pNod_ok bB.2 e1
    have p2 := pNod_ok p1.2.2.2 e2
    have p3 := pTru_ok (T := T) p2.2.2.2
    have p4 := pSgn_ok p3.2.2 (by decide) e3
    have := nt (by omega)
    exact ⟨⟨p4.2.2.2, okDr_nx hp p1.1 p2.1 (by omega), hm, hf, hz⟩, by show s.1 < q1; omega⟩
  rw [if_neg z4] at hh
  by_cases z5 : nmW T n s.1 = 9
  · rw [if_pos z5] at hh
    unfold pAskL at hh
    by_cases z6 : s.2.2.2.1 = 4
    · rw [if_pos z6] at hh; exact absurd hh (by intro w; injection w)
    rw [if_neg z6] at hh
    obtain ⟨r1, e1, hh⟩ := bnd_ok hh
    obtain ⟨q3, e2, hh⟩ := bnd_ok hh
    obtain ⟨r2, e3, hh⟩ := bnd_ok hh
    obtain ⟨r3, e4, hh⟩ := bnd_ok hh
    by_cases z7 : r3.2.2 = 1
    · rw [if_pos z7] at hh
      obtain ⟨q5, e5, hh⟩ := bnd_ok hh
      injection hh with hh
      subst hh
      have i0 : IV s.2.2.1 (48 * s.2.2.2.1) 0 := IV_0 hz
      have p1 := pLets_ok 4 _ _ r1 bB.2 i0 (hz _ (by omega)) e1
      have p2 := pSgn_ok p1.2.2.2.1 (by decide) e2
      have p3 := pItem_ok p2.2.2.2 p1.1 e3
      have p4 := pIts_ok 12 _ _ _ r3 p3.2.2.1 p3.1 e4
      have p5 := pSgn_ok p4.2.2.1 (by decide) e5
      have := nt (by omega)
      have out : ∀ j, (j < 48 * s.2.2.2.1 ∨ 48 * s.2.2.2.1 + 48 ≤ j) → r3.2.1 j = s.2.2.1 j := fun j hj => ((p4.2.2.2 j hj).trans (p3.2.2.2.1 j hj)).trans (p1.2.2.2.2 j hj)
      refine ⟨⟨p5.2.2.2, hp, by show s.2.2.2.1 + 1 ≤ 4; omega, fun k hk => ?_, fun k hk => ?_⟩, by show s.1 < q5; omega⟩
      · have hk : k < s.2.2.2.1 + 1 := hk
        by_cases c : k = s.2.2.2.1
        · rw [c]
          have i := p4.1
          rw [z7] at i
          have b8 : r3.2.1 (48 * s.2.2.2.1 + 1) < 8 := by
            have i1 := i.1
            have i2 := i.2.1
            rcases (by omega : r3.2.1 (48 * s.2.2.2.1) = 0 ∨ r3.2.1 (48 * s.2.2.2.1) = 1 ∨ r3.2.1 (48 * s.2.2.2.1) = 2 ∨ r3.2.1 (48 * s.2.2.2.1) = 3) with w | w | w | w <;> (rw [w] at i2; omega)
          exact ⟨⟨i.1, b8, i.2.2.1, i.2.2.2.1, i.2.2.2.2.1, i.2.2.2.2.2.1⟩, i.2.1⟩
        · exact okF_cg (F := s.2.2.1) (fun j j1 j2 => out j (by omega)) (hf k (by omega))
      · have hk : 48 * (s.2.2.2.1 + 1) ≤ k := hk
        show r3.2.1 k = 0
        rw [out k (by omega)]; exact hz k (by omega)
    · rw [if_neg z7] at hh; exact absurd hh (by intro w; injection w)
  rw [if_neg z5] at hh
  exact absurd hh (by intro w; injection w)
end P59
