/-- a formula's items: kind, its two -/
abbrev fK (F : Nat → Nat) (o i : Nat) : Nat := F (o + 8 + 3 * i)
abbrev fX (F : Nat → Nat) (o i : Nat) : Nat := F (o + 8 + 3 * i + 1)
abbrev fY (F : Nat → Nat) (o i : Nat) : Nat := F (o + 8 + 3 * i + 2)
/-- how many are on the heap ahead of item i -/
def hg (F : Nat → Nat) (o : Nat) : Nat → Nat
  | 0 => 0
  | i + 1 => if fK F o i < 5 then hg F o i + 1 else if fK F o i = 5 then hg F o i else hg F o i - 1
theorem hg_le (F : Nat → Nat) (o : Nat) : ∀ i, hg F o i ≤ i
  | 0 => Nat.le_refl _
  | i + 1 => by
    have := hg_le F o i
    unfold hg
    split
    · omega
    · split <;> omega
/-- an item as it must be, with L letters -/
def okIt (F : Nat → Nat) (o L i : Nat) : Prop := fK F o i ≤ 7 ∧ (fK F o i = 5 → 1 ≤ hg F o i) ∧ (6 ≤ fK F o i → 2 ≤ hg F o i) ∧ (fK F o i < 2 → fX F o i < 3) ∧ (2 ≤ fK F o i → fK F o i < 5 → fX F o i < L) ∧ (fK F o i < 4 → fY F o i < L)
def okF (F : Nat → Nat) (o : Nat) : Prop := F o ≤ 3 ∧ F (o + 1) < 8 ∧ F (o + 2) ≤ 12 ∧ F (o + 3) ≤ 12 ∧ hg F o (F (o + 2)) = 1 ∧ ∀ i, i < F (o + 2) → okIt F o (F o) i
def tru (p st : Nat → Nat) (k x z : Nat) : Nat := if k = 0 then p (6 + 6 * x + st z) else if k = 1 then rchP p x (st z) else if k = 2 then p (24 + 6 * st x + st z) else if k = 3 then samP p (st x) (st z) else if p (st x) = 1 then 2 else 0
def ev (p st F : Nat → Nat) (o : Nat) : Nat → Nat → Nat
  | 0 => fun _ => 0
  | i + 1 => if fK F o i < 5 then upd1 (ev p st F o i) (hg F o i) (tru p st (fK F o i) (fX F o i) (fY F o i)) else if fK F o i = 5 then upd1 (ev p st F o i) (hg F o i - 1) (2 - ev p st F o i (hg F o i - 1)) else if fK F o i = 6 then upd1 (ev p st F o i) (hg F o i - 2) (min (ev p st F o i (hg F o i - 2)) (ev p st F o i (hg F o i - 1))) else upd1 (ev p st F o i) (hg F o i - 2) (max (ev p st F o i (hg F o i - 2)) (ev p st F o i (hg F o i - 1)))
def val (p st F : Nat → Nat) (o : Nat) : Nat := ev p st F o (F (o + 2)) 0
theorem tru_le {p st : Nat → Nat} (hp : okP p) {L k x z : Nat} (hL : L ≤ 3) (hst : ∀ q, q < L → st q < 6) (h1 : k < 2 → x < 3) (h2 : 2 ≤ k → k < 5 → x < L) (h3 : k < 4 → z < L) : tru p st k x z ≤ 2 := by
  unfold tru
  split
  · exact hp.2.2.1 x (st z) (h1 (by omega)) (hst z (h3 (by omega)))
  split
  · exact rchP_le hp (h1 (by omega))
  split
  · exact hp.2.2.2.1 (st x) (st z) (hst x (h2 (by omega) (by omega))) (hst z (h3 (by omega)))
  split
  · exact samP_le _ _ _
  split <;> omega
theorem upd1_le {q : Nat → Nat} {k n c : Nat} (h : ∀ j, q j ≤ c) (hn : n ≤ c) (j : Nat) : upd1 q k n j ≤ c := by
  unfold upd1
  split
  · exact hn
  · exact h j
theorem ev_le {p st F : Nat → Nat} {o L : Nat} (hp : okP p) (hL : L ≤ 3) (hst : ∀ q, q < L → st q < 6) : ∀ n, (∀ i, i < n → okIt F o L i) → ∀ j, ev p st F o n j ≤ 2
  | 0, _, _ => Nat.zero_le _
  | n + 1, h, j => by
    have ih := ev_le (F := F) (o := o) hp hL hst n (fun i hi => h i (by omega))
    have hn := h n (by omega)
    have i1 := ih (hg F o n - 1)
    have i2 := ih (hg F o n - 2)
    unfold ev
    split
    · exact upd1_le ih (tru_le hp hL hst hn.2.2.2.1 hn.2.2.2.2.1 hn.2.2.2.2.2) j
    split
    · exact upd1_le ih (by omega) j
    split
    · exact upd1_le ih (by omega) j
    · exact upd1_le ih (by omega) j
theorem tru_cg {p st st' : Nat → Nat} {L k x z : Nat} (h : ∀ q, q < L → st' q = st q) (h2 : 2 ≤ k → k < 5 → x < L) (h3 : k < 4 → z < L) (hk : k < 5) : tru p st' k x z = tru p st k x z := by
  unfold tru
  by_cases k0 : k = 0
  · rw [if_pos k0, if_pos k0, h z (h3 (by omega))]
  by_cases k1 : k = 1
  · rw [if_neg k0, if_neg k0, if_pos k1, if_pos k1, h z (h3 (by omega))]
  by_cases k2 : k = 2
  · rw [if_neg k0, if_neg k0, if_neg k1, if_neg k1, if_pos k2, if_pos k2, h z (h3 (by omega)), h x (h2 (by omega) hk)]
  by_cases k3 : k = 3
  · rw [if_neg k0, if_neg k0, if_neg k1, if_neg k1, if_neg k2, if_neg k2, if_pos k3, if_pos k3, h z (h3 (by omega)), h x (h2 (by omega) hk)]
  · rw [if_neg k0, if_neg k0, if_neg k1, if_neg k1, if_neg k2, if_neg k2, if_neg k3, if_neg k3, h x (h2 (by omega) hk)]
theorem ev_cg {p st st' F : Nat → Nat} {o L : Nat} (hst : ∀ q, q < L → st' q = st q) : ∀ n, (∀ i, i < n → okIt F o L i) → ev p st' F o n = ev p st F o n
  | 0, _ => rfl
  | n + 1, h => by
    have ih := ev_cg (p := p) (F := F) (o := o) hst n (fun i hi => h i (by omega))
    have hn := h n (by omega)
    unfold ev
    rw [ih]
    split
    · rename_i k5
      rw [tru_cg hst hn.2.2.2.2.1 hn.2.2.2.2.2 k5]
    · rfl
/-- the least of g 0 .. g (n - 1), and 2 -/
def mno (g : Nat → Nat) : Nat → Nat
  | 0 => 2
  | n + 1 => min (mno g n) (g n)
theorem mno_le (g : Nat → Nat) : ∀ n, mno g n ≤ 2
  | 0 => Nat.le_refl _
  | n + 1 => by have := mno_le g n; show min _ _ ≤ 2; omega
theorem mno_cg {g g' : Nat → Nat} : ∀ n, (∀ i, i < n → g i = g' i) → mno g n = mno g' n
  | 0, _ => rfl
  | n + 1, h => by show min _ _ = min _ _; rw [mno_cg n (fun i hi => h i (by omega)), h n (by omega)]
theorem mno_0 {g : Nat → Nat} {n : Nat} (h : mno g n = 0) : ∀ k, mno g (n + k) = 0
  | 0 => h
  | k + 1 => by show min (mno g (n + k)) _ = 0; rw [mno_0 h k]; omega
theorem mxo_2 {g : Nat → Nat} {n : Nat} (h : mxo g n = 2) : ∀ k, (∀ i, i < n + k → g i ≤ 2) → mxo g (n + k) = 2
  | 0, _ => h
  | k + 1, hg => by
    show max (mxo g (n + k)) (g (n + k)) = 2
    rw [mxo_2 h k (fun i hi => hg i (by omega))]
    have := hg (n + k) (by omega)
    omega
def bitF (F : Nat → Nat) (o q : Nat) : Nat := F (o + 1) / 2 ^ q % 2
/-- what it is worth with q letters set, r left -/
def wrt (p F : Nat → Nat) (o : Nat) : Nat → Nat → (Nat → Nat) → Nat
  | 0, _, st => val p st F o
  | r + 1, q, st => if bitF F o q = 1 then mno (fun i => wrt p F o r (q + 1) (upd1 st q i)) (p 60) else mxo (fun i => wrt p F o r (q + 1) (upd1 st q i)) (p 60)
theorem wrt_le {p F : Nat → Nat} {o : Nat} (hp : okP p) (hF : okF F o) : ∀ r q (st : Nat → Nat), q + r = F o → (∀ k, k < q → st k < p 60) → wrt p F o r q st ≤ 2
  | 0, q, st, hq, hst => by
    have h6 := hp.1
    refine ev_le hp hF.1 (fun k hk => ?_) _ hF.2.2.2.2.2 0
    have := hst k (by omega)
    omega
  | r + 1, q, st, hq, hst => by
    unfold wrt
    split
    · exact mno_le _ _
    · refine mxo_le (fun i hi => wrt_le hp hF r (q + 1) _ (by omega) (fun k hk => ?_))
      by_cases e : k = q
      · subst e; rw [upd1_s]; exact hi
      · rw [upd1_n e]; exact hst k (by omega)
theorem wrt_cg {p F : Nat → Nat} {o : Nat} (hF : okF F o) : ∀ r q (st st' : Nat → Nat), q + r = F o → (∀ k, k < q → st' k = st k) → wrt p F o r q st' = wrt p F o r q st
  | 0, q, st, st', hq, h => by
    unfold wrt val
    rw [ev_cg (L := F o) (fun k hk => h k (by omega)) _ hF.2.2.2.2.2]
  | r + 1, q, st, st', hq, h => by
    have e : ∀ i, wrt p F o r (q + 1) (upd1 st' q i) = wrt p F o r (q + 1) (upd1 st q i) := fun i => wrt_cg hF r (q + 1) _ _ (by omega) (fun k hk => by
      by_cases z : k = q
      · rw [z, upd1_s, upd1_s]
      · rw [upd1_n z, upd1_n z]; exact h k (by omega))
    unfold wrt
    rw [mno_cg _ (fun i _ => e i), mxo_congr (fun i _ => e i)]
/-- the class's formula at a tells F from o on -/
def CFm (f : Nat → Nat → Int32) (a : Nat) (F : Nat → Nat) (o : Nat) : Prop := f a 0 = nI (F o) ∧ f a 3 = nI (F (o + 2)) ∧ f a 8 = nI (F (o + 3)) ∧ (∀ q, q < F o → f (a + 2) q = nI (bitF F o q)) ∧ ∀ i, i < F (o + 2) → f (a + 3) i = nI (fK F o i) ∧ f (a + 4) i = nI (fX F o i) ∧ f (a + 5) i = nI (fY F o i)
theorem CFm.fr {f g : Nat → Nat → Int32} {a o : Nat} {F : Nat → Nat} (h : CFm f a F o) (h0 : ∀ z, a ≤ z → z < a + 6 → ∀ j, g z j = f z j) : CFm g a F o :=
  ⟨by rw [h0 _ (by omega) (by omega)]; exact h.1, by rw [h0 _ (by omega) (by omega)]; exact h.2.1, by rw [h0 _ (by omega) (by omega)]; exact h.2.2.1, fun q hq => by rw [h0 _ (by omega) (by omega)]; exact h.2.2.2.1 q hq, fun i hi => ⟨by rw [h0 _ (by omega) (by omega)]; exact (h.2.2.2.2 i hi).1, by rw [h0 _ (by omega) (by omega)]; exact (h.2.2.2.2 i hi).2.1, by rw [h0 _ (by omega) (by omega)]; exact (h.2.2.2.2 i hi).2.2⟩⟩
/-- the top of a heap with h on it -/
def tpI (h : Nat) : Int32 := if h = 0 then -1 else nI (h - 1)
theorem tpI_s (h : Nat) : tpI (h + 1) = nI h := by unfold tpI; rw [if_neg (by omega)]; rfl
theorem tpI_p {h : Nat} (h0 : 1 ≤ h) : tpI h = nI (h - 1) := if_neg (by omega)
theorem tpI_1 (h : Nat) : tpI h + 1 = nI h := by
  unfold tpI
  split
  · rename_i e; rw [e]; decide
  · rw [nI_1]; congr 1; omega
section P42
variable {X : cX} {d : Nat} {μ : mM} {K : Option Value → mM → Prop} {f : Nat → Nat → Int32} {a b c s y : Nat} {p F st : Nat → Nat} {o : Nat}
theorem c_truthOf {k x z : Nat} (hwa : WF3 μ a) (hws : WF5 μ s) (hs : Sh f s p) (hp : okP p) (hr : ∀ v j, v < 3 → j < p 60 → f (s + 21 + v) j = nI (rchP p v j)) {L : Nat} (hL : L ≤ 3) (hst : ∀ q, q < L → f (a + 6) q = nI (st q) ∧ st q < p 60) (hk : k < 5) (h1 : k < 2 → x < 3) (h2 : 2 ≤ k → k < 5 → x < L) (h3 : k < 4 → z < L) (hK : K (some (.int (nI (tru p st k x z)))) (sI μ f)) : Ct X (Rm (d + 1)) mX3_truthOf [.ref a, .ref s, .int (nI k), .int (nI x), .int (nI z)] (sI μ f) K := by
  have h6 := hp.1
  have st6 : ∀ q, q < L → st q < 6 := fun q hq => by have := (hst q hq).2; omega
  have eqk : ∀ {n : Nat}, n < 2 ^ 31 → nI k = nI n → k = n := fun hn h => (nI_eq (by omega) hn).mp h
  have e0 : nI k = 0 → k = 0 := eqk (n := 0) (by decide)
  have e1 : nI k = 1 → k = 1 := eqk (n := 1) (by decide)
  have e2 : nI k = 2 → k = 2 := eqk (n := 2) (by decide)
  have e3 : nI k = 3 → k = 3 := eqk (n := 3) (by decide)
  have e4 : ((nI k).toInt < 0 ∨ 3 < (nI k).toInt) → k = 4 := fun h => by rw [nI_toInt (by omega)] at h; omega
  unfold tru at hK
  refine Ct_of rfl (Nat.le_of_ble_eq_true rfl) (b_X3_truthOf_0 (j0 := st z) (j1 := st x) (hw5_r1 := hws) (hb := fun q => h1 (by have := e0 q; omega)) (hw3_r0 := hwa) (hb_2 := fun q => by have := h3 (by have := e0 q; omega); omega) (hi_j0 := fun q => (hst z (h3 (by have := e0 q; omega))).1) (hb_3 := fun q => st6 z (h3 (by have := e0 q; omega))) (hK := fun q => ?_) (hb_4 := fun q => h1 (by have := e1 q; omega)) (hb_5 := fun q => by have := h3 (by have := e1 q; omega); omega) (hi_j0_2 := fun q => (hst z (h3 (by have := e1 q; omega))).1) (hb_6 := fun q => st6 z (h3 (by have := e1 q; omega))) (hK_2 := fun q => ?_) (hb_7 := fun q => by have := h2 (by have := e2 q; omega) hk; omega) (hi_j1 := fun q => (hst x (h2 (by have := e2 q; omega) hk)).1) (hb_8 := fun q => st6 x (h2 (by have := e2 q; omega) hk)) (hb_9 := fun q => by have := h3 (by have := e2 q; omega); omega) (hi_j0_3 := fun q => (hst z (h3 (by have := e2 q; omega))).1) (hb_10 := fun q => st6 z (h3 (by have := e2 q; omega))) (hK_3 := fun q => ?_) (hb_11 := fun q => by have := h2 (by have := e3 q; omega) hk; omega) (hb_12 := fun q => by have := h3 (by have := e3 q; omega); omega) (hi_j1_2 := fun q => (hst x (h2 (by have := e3 q; omega) hk)).1) (hs := fun q _ => st6 x (h2 (by have := e3 q; omega) hk)) (hK_4 := fun q => ?_) (hb_13 := fun q => by have := h2 (by have := e4 q; omega) hk; omega) (hi_j1_3 := fun q => (hst x (h2 (by have := e4 q; omega) hk)).1) (hb_14 := fun q => st6 x (h2 (by have := e4 q; omega) hk)) (hK_5 := fun q w => ?_) (hK_6 := fun q w => ?_))
  · have k0 := e0 q
    rw [if_pos k0] at hK
    rw [iv_sI, hs.2.2.1 x (st z) (h1 (by omega)) (st6 z (h3 (by omega)))]
    exact hK
  · have k0 := e1 q
    rw [if_neg (by omega), if_pos k0] at hK
    rw [iv_sI, hr x (st z) (h1 (by omega)) (hst z (h3 (by omega))).2]
    exact hK
  · have k0 := e2 q
    rw [if_neg (by omega), if_neg (by omega), if_pos k0] at hK
    rw [iv_sI, hs.2.2.2 (st x) (st z) (st6 x (h2 (by omega) hk)) (st6 z (h3 (by omega)))]
    exact hK
  · have k0 := e3 q
    rw [if_neg (by omega), if_neg (by omega), if_neg (by omega), if_pos k0] at hK
    have e9 : iv (sI μ f) (a + 6) z = nI (st z) := (hst z (h3 (by omega))).1
    rw [e9, smI hs hp (st6 x (h2 (by omega) hk)) (st6 z (h3 (by omega)))]
    exact hK
  · have k0 := e4 q
    have sx := st6 x (h2 (by omega) hk)
    have l1 := hp.2.1 (st x) sx
    rw [iv_sI, hs.2.1 (st x) sx, nI_z (by omega)] at w
    rw [if_neg (by omega), if_neg (by omega), if_neg (by omega), if_neg (by omega), if_neg (by omega)] at hK
    exact hK
  · have k0 := e4 q
    have sx := st6 x (h2 (by omega) hk)
    have l1 := hp.2.1 (st x) sx
    rw [iv_sI, hs.2.1 (st x) sx, nI_z (by omega)] at w
    rw [if_neg (by omega), if_neg (by omega), if_neg (by omega), if_neg (by omega), if_pos (by omega)] at hK
    exact hK
theorem takenI {k : Nat} (hk : k ≤ 7) : e_X3_taken μ (nI k) = nI (if 6 ≤ k then 2 else if k = 5 then 1 else 0) := by
  unfold e_X3_taken
  rcases (by omega : k = 0 ∨ k = 1 ∨ k = 2 ∨ k = 3 ∨ k = 4 ∨ k = 5 ∨ k = 6 ∨ k = 7) with rfl | rfl | rfl | rfl | rfl | rfl | rfl | rfl <;> decide
theorem c_items (hwa : WF3 μ a) (hws : WF5 μ s) (has : a + 8 ≤ s ∨ s + 24 ≤ a) (hs : Sh f s p) (hp : okP p) (hr : ∀ v j, v < 3 → j < p 60 → f (s + 21 + v) j = nI (rchP p v j)) (hF : okF F o) (hc : CFm f a F o) (hst : ∀ q, q < F o → f (a + 6) q = nI (st q) ∧ st q < p 60) (hK : ∀ f', (∀ z, z ≠ a + 7 → ∀ j, f' z j = f z j) → K (some (.int (nI (val p st F o)))) (sI μ f')) : Ct X (Rm (d + 2)) mX3_worthOfItems [.ref a, .ref s] (sI μ f) K := by
  have h6 := hp.1
  have hI := hF.2.2.1
  refine Ct_of rfl (Nat.le_of_ble_eq_true rfl) (b_X3_worthOfItems_0 ?_)
  have st6 : ∀ q, q < F o → st q < 6 := fun q hq => by have := (hst q hq).2; omega
  have H : ∀ i, i ≤ F (o + 2) → ∀ g, (∀ z, z ≠ a + 7 → ∀ j, g z j = f z j) → (∀ j, j < hg F o i → g (a + 7) j = nI (ev p st F o i j)) → G X (Rm (d + 2)) mX3_worthOfItems 4 [(0, .ref a), (1, .ref s), (2, .int (tpI (hg F o i))), (3, .int (nI i))] [] (sI μ g) 0 0 K := by
    refine dn (F (o + 2)) ?_ ?_
    · intro g q1 q2
      have e1 : iv (sI μ g) a 3 = nI (F (o + 2)) := by rw [iv_sI, q1 a (by omega)]; exact hc.2.1
      have e0 : iv (sI μ g) (a + 7) 0 = nI (val p st F o) := q2 0 (by rw [hF.2.2.2.2.1]; decide)
      have Z : G X (Rm (d + 2)) mX3_worthOfItems 168 [(0, .ref a)] [] (sI μ g) 0 0 K := b_X3_worthOfItems_168 hwa (by rw [e0]; exact hK g q1)
      refine b_X3_worthOfItems_4 (j0 := 0) (j1 := 0) (j2 := 0) (hw3_r0 := hwa) (h := fun _ => Z) (h_2 := fun _ _ => Z) (hb := ?_) (hb_2 := ?_) (hc_truthOf := ?_) (hi_j0 := ?_) (hb_3 := ?_) (hi_j1 := ?_) (hb_4 := ?_) (h_3 := ?_) (hi_j0_2 := ?_) (hb_5 := ?_) (hi_j1_2 := ?_) (hb_6 := ?_) (h_4 := ?_) (hi_j2 := ?_) (hb_7 := ?_) (h_5 := ?_) (hK := ?_) <;> (intro z; rw [e1] at z; exact absurd (le_r _) z)
    · intro i hi ih g q1 q2
      have e1 : iv (sI μ g) a 3 = nI (F (o + 2)) := by rw [iv_sI, q1 a (by omega)]; exact hc.2.1
      have it := hc.2.2.2.2 i hi
      have ek : iv (sI μ g) (a + 3) i = nI (fK F o i) := by rw [iv_sI, q1 _ (by omega)]; exact it.1
      have ex : iv (sI μ g) (a + 4) i = nI (fX F o i) := by rw [iv_sI, q1 _ (by omega)]; exact it.2.1
      have ey : iv (sI μ g) (a + 5) i = nI (fY F o i) := by rw [iv_sI, q1 _ (by omega)]; exact it.2.2
      obtain ⟨k7, k5, k6, hx1, hx2, hy⟩ := hF.2.2.2.2.2 i hi
      have hgl := hg_le F o i
      have evl := ev_le (st := st) (F := F) (o := o) hp hF.1 st6 i (fun r hr => hF.2.2.2.2.2 r (by omega))
      have tk := takenI (μ := sI μ g) k7
      have T : e_X3_taken (sI μ g) (iv (sI μ g) (a + 3) i) ≤ tpI (hg F o i) + 1 := by
        rw [ek, tk, tpI_1]
        refine nI_le ?_ (by omega)
        split
        · rename_i z; exact k6 z
        · split
          · rename_i z; exact k5 z
          · exact Nat.zero_le _
      have eq5 : (iv (sI μ g) (a + 3) i = (5 : Int32)) ↔ fK F o i = 5 := by rw [ek]; exact nI_eq (b := 5) (by omega) (by decide)
      have eq6 : (iv (sI μ g) (a + 3) i = (6 : Int32)) ↔ fK F o i = 6 := by rw [ek]; exact nI_eq (b := 6) (by omega) (by decide)
      have eq7 : (iv (sI μ g) (a + 3) i = (7 : Int32)) ↔ fK F o i = 7 := by rw [ek]; exact nI_eq (b := 7) (by omega) (by decide)
      have v0 := evl (hg F o i - 2)
      have v1 := evl (hg F o i - 1)
      -- two become one
      have two : 6 ≤ fK F o i → tpI (hg F o i) + -1 = nI (hg F o i - 2) ∧ tpI (hg F o i) + -1 + 1 = nI (hg F o i - 1) := fun z => by
        have := k6 z
        rw [tpI_p (by omega), show hg F o i - 1 = (hg F o i - 2) + 1 by omega, pk_m1, nI_1]
        exact ⟨rfl, rfl⟩
      have x0 : 6 ≤ fK F o i → iv (sI μ g) (a + 7) (hg F o i - 2) = nI (ev p st F o i (hg F o i - 2)) := fun z => q2 _ (by have := k6 z; omega)
      have x1 : 5 ≤ fK F o i → iv (sI μ g) (a + 7) (hg F o i - 1) = nI (ev p st F o i (hg F o i - 1)) := fun z => q2 _ (by
        by_cases w : fK F o i = 5
        · have := k5 w; omega
        · have := k6 (by omega); omega)
      have hgs2 : 6 ≤ fK F o i → hg F o (i + 1) = hg F o i - 1 := fun z => by
        show (if fK F o i < 5 then _ else if fK F o i = 5 then _ else hg F o i - 1) = _
        rw [if_neg (by omega), if_neg (by omega)]
      have S2 : 6 ≤ fK F o i → ∀ t : Nat, ev p st F o (i + 1) = upd1 (ev p st F o i) (hg F o i - 2) t → G X (Rm (d + 2)) mX3_worthOfItems 162 [(0, .ref a), (1, .ref s), (2, .int (tpI (hg F o i) + -1)), (3, .int (nI i))] [] (sI μ (u2 g (a + 7) (hg F o i - 2) (nI t))) 0 0 K := fun z t ht => by
        have := k6 z
        refine b_X3_worthOfItems_162 ?_
        have e9 : nI (hg F o i - 2) = tpI (hg F o (i + 1)) := by rw [hgs2 z, tpI_p (by omega), show hg F o i - 1 - 1 = hg F o i - 2 by omega]
        rw [(two z).1, e9]
        refine ih _ (fun w hw j => by rw [u2_x hw]; exact q1 w hw j) (fun j hj => ?_)
        rw [hgs2 z] at hj
        rw [ht]
        by_cases e : j = hg F o i - 2
        · rw [e, u2_s, upd1_s]
        · rw [u2_k e, upd1_n e]; exact q2 j (by omega)
      refine b_X3_worthOfItems_4 (j0 := hg F o i - 2) (j1 := hg F o i - 1) (j2 := hg F o i - 1) (hw3_r0 := hwa) (h := fun z => absurd z (by rw [e1]; exact ge_c hi (by omega))) (h_2 := fun _ z => absurd z (ge_c (n := 12) (by omega) (by decide))) (hb := fun _ _ => by omega) (hb_2 := fun _ _ _ _ _ _ => by omega) (hc_truthOf := fun _ _ _ z5 z6 z7 => ?_) (hi_j0 := fun _ _ _ z5 z6 z7 => (two (by have := eq7.mp z7; omega)).1) (hb_3 := fun _ _ _ _ _ _ => by omega) (hi_j1 := fun _ _ _ z5 z6 z7 => (two (by have := eq7.mp z7; omega)).2) (hb_4 := fun _ _ _ _ _ _ => by omega) (h_3 := fun _ _ _ z5 z6 z7 => ?_) (hi_j0_2 := fun _ _ _ z5 z6 => (two (by have := eq6.mp z6; omega)).1) (hb_5 := fun _ _ _ _ _ => by omega) (hi_j1_2 := fun _ _ _ z5 z6 => (two (by have := eq6.mp z6; omega)).2) (hb_6 := fun _ _ _ _ _ => by omega) (h_4 := fun _ _ _ z5 z6 => ?_) (hi_j2 := fun _ _ _ z5 => tpI_p (k5 (eq5.mp z5))) (hb_7 := fun _ _ _ _ => by omega) (h_5 := fun _ _ _ z5 => ?_) (hK := fun _ _ z => absurd T z)
      · rw [eq5] at z5
        rw [eq6] at z6
        rw [eq7] at z7
        have k4 : fK F o i < 5 := by omega
        rw [ek, ex, ey, tpI_1]
        refine c_truthOf (st := st) (L := F o) hwa hws (hs.fr (fun z h1 h2 j => q1 z (by omega) j)) hp (fun v j hv hj => by rw [q1 _ (by omega)]; exact hr v j hv hj) hF.1 (fun q hq => ⟨by rw [q1 _ (by omega)]; exact (hst q hq).1, (hst q hq).2⟩) k4 hx1 hx2 hy ?_
        refine b_X3_worthOfItems_161 (n0 := 12) (j0 := hg F o i) (hk_q0 := w3_k10 hwa) (hi_j0 := rfl) (hb := by omega) (h := ?_)
        rw [wi_sI]
        refine b_X3_worthOfItems_162 ?_
        have hgs : hg F o (i + 1) = hg F o i + 1 := if_pos k4
        rw [← tpI_s, ← hgs]
        refine ih _ (fun w hw j => by rw [u2_x hw]; exact q1 w hw j) (fun j hj => ?_)
        rw [hgs] at hj
        have evs : ev p st F o (i + 1) = upd1 (ev p st F o i) (hg F o i) (tru p st (fK F o i) (fX F o i) (fY F o i)) := if_pos k4
        rw [evs]
        by_cases e : j = hg F o i
        · rw [e, u2_s, upd1_s]
        · rw [u2_k e, upd1_n e]; exact q2 j (by omega)
      · rw [eq7] at z7
        rw [x0 (by omega), x1 (by omega), mxI (by omega) (by omega), wi_sI]
        refine S2 (by omega) _ ?_
        show (if fK F o i < 5 then _ else if fK F o i = 5 then _ else if fK F o i = 6 then _ else _) = _
        rw [if_neg (by omega), if_neg (by omega), if_neg (by omega)]
      · rw [eq6] at z6
        rw [x0 (by omega), x1 (by omega), mnI (by omega) (by omega), wi_sI]
        refine S2 (by omega) _ ?_
        show (if fK F o i < 5 then _ else if fK F o i = 5 then _ else if fK F o i = 6 then _ else _) = _
        rw [if_neg (by omega), if_neg (by omega), if_pos z6]
      · rw [eq5] at z5
        have := k5 z5
        rw [x1 (by omega), sub2 v1, wi_sI]
        refine b_X3_worthOfItems_162 ?_
        have hgs : hg F o (i + 1) = hg F o i := by
          show (if fK F o i < 5 then _ else if fK F o i = 5 then _ else _) = _
          rw [if_neg (by omega), if_pos z5]
        rw [← hgs]
        refine ih _ (fun w hw j => by rw [u2_x hw]; exact q1 w hw j) (fun j hj => ?_)
        rw [hgs] at hj
        have evs : ev p st F o (i + 1) = upd1 (ev p st F o i) (hg F o i - 1) (2 - ev p st F o i (hg F o i - 1)) := by
          show (if fK F o i < 5 then _ else if fK F o i = 5 then _ else _) = _
          rw [if_neg (by omega), if_pos z5]
        rw [evs, hgs]
        by_cases e : j = hg F o i - 1
        · rw [e, u2_s, upd1_s]
        · rw [u2_k e, upd1_n e]; exact q2 j (by omega)
  exact H 0 (Nat.zero_le _) f (fun _ _ _ => rfl) (fun j hj => absurd hj (Nat.not_lt_zero _))
end P42
