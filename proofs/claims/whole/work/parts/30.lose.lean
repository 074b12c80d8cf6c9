/-- a page by its four tables -/
def pg (sz : Nat) (m : Nat → Nat) (A N : Nat → Nat → Nat) : Nat → Nat := fun k => if k < 6 then m k else if k < 24 then A ((k - 6) / 6) ((k - 6) % 6) else if k < 60 then N ((k - 24) / 6) ((k - 24) % 6) else sz
theorem pg_60 (sz : Nat) (m : Nat → Nat) (A N : Nat → Nat → Nat) : pg sz m A N 60 = sz := rfl
theorem pg_m {sz : Nat} {m : Nat → Nat} {A N : Nat → Nat → Nat} {i : Nat} (hi : i < 6) : pg sz m A N i = m i := if_pos hi
theorem pg_A {sz : Nat} {m : Nat → Nat} {A N : Nat → Nat → Nat} {v i : Nat} (hv : v < 3) (hi : i < 6) : pg sz m A N (6 + 6 * v + i) = A v i := by
  unfold pg
  rw [if_neg (by omega), if_pos (by omega), show (6 + 6 * v + i - 6) / 6 = v by omega, show (6 + 6 * v + i - 6) % 6 = i by omega]
theorem pg_N {sz : Nat} {m : Nat → Nat} {A N : Nat → Nat → Nat} {i j : Nat} (hi : i < 6) (hj : j < 6) : pg sz m A N (24 + 6 * i + j) = N i j := by
  unfold pg
  rw [if_neg (by omega), if_neg (by omega), if_pos (by omega), show (24 + 6 * i + j - 24) / 6 = i by omega, show (24 + 6 * i + j - 24) % 6 = j by omega]
/-- the reference's page from P on, by tables -/
def T4 (f : Nat → Nat → Int32) (y P sz : Nat) (m : Nat → Nat) (A N : Nat → Nat → Nat) : Prop := f (y + 1) (P + 60) = nI sz ∧ (∀ i, i < 6 → f (y + 1) (P + i) = nI (m i)) ∧ (∀ v i, v < 3 → i < 6 → f (y + 1) (P + (6 + 6 * v + i)) = nI (A v i)) ∧ ∀ i j, i < 6 → j < 6 → f (y + 1) (P + (24 + 6 * i + j)) = nI (N i j)
/-- the class's shape, by tables -/
def S4 (f : Nat → Nat → Int32) (a sz : Nat) (m : Nat → Nat) (A N : Nat → Nat → Nat) : Prop := f a 0 = nI sz ∧ (∀ i, i < 6 → f (a + 1) i = nI (m i)) ∧ (∀ v i, v < 3 → i < 6 → f (a + 3 + v) i = nI (A v i)) ∧ ∀ i j, i < 6 → j < 6 → f (a + 7 + i) j = nI (N i j)
theorem S4_of {f : Nat → Nat → Int32} {a : Nat} {p : Nat → Nat} (h : Sh f a p) : S4 f a (p 60) p (fun v i => p (6 + 6 * v + i)) (fun i j => p (24 + 6 * i + j)) := h
theorem S4_pg {f : Nat → Nat → Int32} {a sz : Nat} {m : Nat → Nat} {A N : Nat → Nat → Nat} (h : S4 f a sz m A N) : Sh f a (pg sz m A N) :=
  ⟨h.1, fun i hi => by rw [pg_m hi]; exact h.2.1 i hi, fun v i hv hi => by rw [pg_A hv hi]; exact h.2.2.1 v i hv hi, fun i j hi hj => by rw [pg_N hi hj]; exact h.2.2.2 i j hi hj⟩
theorem T4_of {f : Nat → Nat → Int32} {y P : Nat} {p : Nat → Nat} (h : Pg f y P p) : T4 f y P (p 60) p (fun v i => p (6 + 6 * v + i)) (fun i j => p (24 + 6 * i + j)) :=
  ⟨h 60 (by decide), fun i hi => h i (by omega), fun v i hv hi => h _ (by omega), fun i j hi hj => h _ (by omega)⟩
theorem T4_pg {f : Nat → Nat → Int32} {y P sz : Nat} {m : Nat → Nat} {A N : Nat → Nat → Nat} (h : T4 f y P sz m A N) : Pg f y P (pg sz m A N) := by
  intro k hk
  by_cases h1 : k < 6
  · rw [pg_m h1]; exact h.2.1 k h1
  · by_cases h2 : k < 24
    · have := h.2.2.1 ((k - 6) / 6) ((k - 6) % 6) (by omega) (by omega)
      rw [show 6 + 6 * ((k - 6) / 6) + (k - 6) % 6 = k by omega] at this
      rw [this]
      unfold pg
      rw [if_neg h1, if_pos h2]
    · by_cases h3 : k < 60
      · have := h.2.2.2 ((k - 24) / 6) ((k - 24) % 6) (by omega) (by omega)
        rw [show 24 + 6 * ((k - 24) / 6) + (k - 24) % 6 = k by omega] at this
        rw [this]
        unfold pg
        rw [if_neg h1, if_neg h2, if_pos h3]
      · rw [show k = 60 by omega]; exact h.1
theorem Pg_0 {f : Nat → Nat → Int32} {y : Nat} {p : Nat → Nat} : Pg f y 0 p ↔ Pg0 f y p := by
  constructor
  · intro h k hk
    have := h k hk
    rw [Nat.zero_add] at this
    exact this
  · intro h k hk
    rw [Nat.zero_add]
    exact h k hk
theorem T4.cg {f : Nat → Nat → Int32} {y P sz : Nat} {m m' : Nat → Nat} {A N A' N' : Nat → Nat → Nat} (h : T4 f y P sz m A N) (h1 : ∀ i, i < 6 → m' i = m i) (h2 : ∀ v i, v < 3 → i < 6 → A' v i = A v i) (h3 : ∀ i j, i < 6 → j < 6 → N' i j = N i j) : T4 f y P sz m' A' N' :=
  ⟨h.1, fun i hi => by rw [h1 i hi]; exact h.2.1 i hi, fun v i hv hi => by rw [h2 v i hv hi]; exact h.2.2.1 v i hv hi, fun i j hi hj => by rw [h3 i j hi hj]; exact h.2.2.2 i j hi hj⟩
theorem T4.uz {f : Nat → Nat → Int32} {y P sz : Nat} {m : Nat → Nat} {A N : Nat → Nat → Nat} (h : T4 f y P sz m A N) (n : Nat) : T4 (u2 f (y + 1) (P + 60) (nI n)) y P n m A N :=
  ⟨u2_s _ _ _ _, fun i hi => by rw [u2_k (by omega)]; exact h.2.1 i hi, fun v i hv hi => by rw [u2_k (by omega)]; exact h.2.2.1 v i hv hi, fun i j hi hj => by rw [u2_k (by omega)]; exact h.2.2.2 i j hi hj⟩
theorem T4.um {f : Nat → Nat → Int32} {y P sz i n : Nat} {m m' : Nat → Nat} {A N : Nat → Nat → Nat} (h : T4 f y P sz m A N) (hi : i < 6) (h1 : m' i = n) (h2 : ∀ k, k < 6 → k ≠ i → m' k = m k) : T4 (u2 f (y + 1) (P + i) (nI n)) y P sz m' A N := by
  refine ⟨by rw [u2_k (by omega)]; exact h.1, fun k hk => ?_, fun v i hv hi => by rw [u2_k (by omega)]; exact h.2.2.1 v i hv hi, fun i j hi hj => by rw [u2_k (by omega)]; exact h.2.2.2 i j hi hj⟩
  by_cases q : k = i
  · subst q; rw [u2_s, h1]
  · rw [u2_k (by omega), h2 k hk q]; exact h.2.1 k hk
theorem T4.uA {f : Nat → Nat → Int32} {y P sz v i n : Nat} {m : Nat → Nat} {A A' N : Nat → Nat → Nat} (h : T4 f y P sz m A N) (hv : v < 3) (hi : i < 6) (h1 : A' v i = n) (h2 : ∀ w k, w < 3 → k < 6 → (w ≠ v ∨ k ≠ i) → A' w k = A w k) : T4 (u2 f (y + 1) (P + (6 + 6 * v + i)) (nI n)) y P sz m A' N := by
  refine ⟨by rw [u2_k (by omega)]; exact h.1, fun k hk => by rw [u2_k (by omega)]; exact h.2.1 k hk, fun w k hw hk => ?_, fun i j hi hj => by rw [u2_k (by omega)]; exact h.2.2.2 i j hi hj⟩
  by_cases q : w = v ∧ k = i
  · obtain ⟨rfl, rfl⟩ := q; rw [u2_s, h1]
  · rw [u2_k (by omega), h2 w k hw hk (by omega)]; exact h.2.2.1 w k hw hk
theorem T4.uN {f : Nat → Nat → Int32} {y P sz i j n : Nat} {m : Nat → Nat} {A N N' : Nat → Nat → Nat} (h : T4 f y P sz m A N) (hi : i < 6) (hj : j < 6) (h1 : N' i j = n) (h2 : ∀ r k, r < 6 → k < 6 → (r ≠ i ∨ k ≠ j) → N' r k = N r k) : T4 (u2 f (y + 1) (P + (24 + 6 * i + j)) (nI n)) y P sz m A N' := by
  refine ⟨by rw [u2_k (by omega)]; exact h.1, fun k hk => by rw [u2_k (by omega)]; exact h.2.1 k hk, fun w k hw hk => by rw [u2_k (by omega)]; exact h.2.2.1 w k hw hk, fun r k hr hk => ?_⟩
  by_cases q : r = i ∧ k = j
  · obtain ⟨rfl, rfl⟩ := q; rw [u2_s, h1]
  · rw [u2_k (by omega), h2 r k hr hk (by omega)]; exact h.2.2.2 r k hr hk
theorem S4.cg {f : Nat → Nat → Int32} {a sz : Nat} {m m' : Nat → Nat} {A N A' N' : Nat → Nat → Nat} (h : S4 f a sz m A N) (h1 : ∀ i, i < 6 → m' i = m i) (h2 : ∀ v i, v < 3 → i < 6 → A' v i = A v i) (h3 : ∀ i j, i < 6 → j < 6 → N' i j = N i j) : S4 f a sz m' A' N' :=
  ⟨h.1, fun i hi => by rw [h1 i hi]; exact h.2.1 i hi, fun v i hv hi => by rw [h2 v i hv hi]; exact h.2.2.1 v i hv hi, fun i j hi hj => by rw [h3 i j hi hj]; exact h.2.2.2 i j hi hj⟩
theorem S4.uz {f : Nat → Nat → Int32} {a sz : Nat} {m : Nat → Nat} {A N : Nat → Nat → Nat} (h : S4 f a sz m A N) (n : Nat) : S4 (u2 f a 0 (nI n)) a n m A N :=
  ⟨u2_s _ _ _ _, fun i hi => by rw [u2_x (by omega)]; exact h.2.1 i hi, fun v i hv hi => by rw [u2_x (by omega)]; exact h.2.2.1 v i hv hi, fun i j hi hj => by rw [u2_x (by omega)]; exact h.2.2.2 i j hi hj⟩
theorem S4.um {f : Nat → Nat → Int32} {a sz i n : Nat} {m m' : Nat → Nat} {A N : Nat → Nat → Nat} (h : S4 f a sz m A N) (h1 : m' i = n) (h2 : ∀ k, k < 6 → k ≠ i → m' k = m k) : S4 (u2 f (a + 1) i (nI n)) a sz m' A N := by
  refine ⟨by rw [u2_x (by omega)]; exact h.1, fun k hk => ?_, fun v i hv hi => by rw [u2_x (by omega)]; exact h.2.2.1 v i hv hi, fun i j hi hj => by rw [u2_x (by omega)]; exact h.2.2.2 i j hi hj⟩
  by_cases q : k = i
  · subst q; rw [u2_s, h1]
  · rw [u2_k q, h2 k hk q]; exact h.2.1 k hk
theorem S4.uA {f : Nat → Nat → Int32} {a sz v i n : Nat} {m : Nat → Nat} {A A' N : Nat → Nat → Nat} (h : S4 f a sz m A N) (hv : v < 3) (h1 : A' v i = n) (h2 : ∀ w k, w < 3 → k < 6 → (w ≠ v ∨ k ≠ i) → A' w k = A w k) : S4 (u2 f (a + 3 + v) i (nI n)) a sz m A' N := by
  refine ⟨by rw [u2_x (by omega)]; exact h.1, fun k hk => by rw [u2_x (by omega)]; exact h.2.1 k hk, fun w k hw hk => ?_, fun i j hi hj => by rw [u2_x (by omega)]; exact h.2.2.2 i j hi hj⟩
  by_cases q : w = v ∧ k = i
  · obtain ⟨rfl, rfl⟩ := q; rw [u2_s, h1]
  · rw [h2 w k hw hk (by omega)]
    by_cases q2 : w = v
    · rw [u2_k (by omega)]; exact h.2.2.1 w k hw hk
    · rw [u2_x (by omega)]; exact h.2.2.1 w k hw hk
theorem S4.uN {f : Nat → Nat → Int32} {a sz i j n : Nat} {m : Nat → Nat} {A N N' : Nat → Nat → Nat} (h : S4 f a sz m A N) (hi : i < 6) (h1 : N' i j = n) (h2 : ∀ r k, r < 6 → k < 6 → (r ≠ i ∨ k ≠ j) → N' r k = N r k) : S4 (u2 f (a + 7 + i) j (nI n)) a sz m A N' := by
  refine ⟨by rw [u2_x (by omega)]; exact h.1, fun k hk => by rw [u2_x (by omega)]; exact h.2.1 k hk, fun w k hw hk => by rw [u2_x (by omega)]; exact h.2.2.1 w k hw hk, fun r k hr hk => ?_⟩
  by_cases q : r = i ∧ k = j
  · obtain ⟨rfl, rfl⟩ := q; rw [u2_s, h1]
  · rw [h2 r k hr hk (by omega)]
    by_cases q2 : r = i
    · rw [u2_k (by omega)]; exact h.2.2.2 r k hr hk
    · rw [u2_x (by omega)]; exact h.2.2.2 r k hr hk
/-- rows as a whole -/
theorem S4.rA {f g : Nat → Nat → Int32} {a sz v : Nat} {m : Nat → Nat} {A A' N : Nat → Nat → Nat} (h : S4 f a sz m A N) (hv : v < 3) (h0 : ∀ z, z ≠ a + 3 + v → a ≤ z → z < a + 13 → ∀ j, g z j = f z j) (h1 : ∀ j, j < 6 → g (a + 3 + v) j = nI (A' v j)) (h2 : ∀ w k, w < 3 → k < 6 → w ≠ v → A' w k = A w k) : S4 g a sz m A' N := by
  refine ⟨by rw [h0 _ (by omega) (by omega) (by omega)]; exact h.1, fun k hk => by rw [h0 _ (by omega) (by omega) (by omega)]; exact h.2.1 k hk, fun w k hw hk => ?_, fun i j hi hj => by rw [h0 _ (by omega) (by omega) (by omega)]; exact h.2.2.2 i j hi hj⟩
  by_cases q : w = v
  · subst q; exact h1 k hk
  · rw [h0 _ (by omega) (by omega) (by omega), h2 w k hw hk q]; exact h.2.2.1 w k hw hk
theorem S4.rN {f g : Nat → Nat → Int32} {a sz i : Nat} {m : Nat → Nat} {A N N' : Nat → Nat → Nat} (h : S4 f a sz m A N) (hi : i < 6) (h0 : ∀ z, z ≠ a + 7 + i → a ≤ z → z < a + 13 → ∀ j, g z j = f z j) (h1 : ∀ j, j < 6 → g (a + 7 + i) j = nI (N' i j)) (h2 : ∀ r k, r < 6 → k < 6 → r ≠ i → N' r k = N r k) : S4 g a sz m A N' := by
  refine ⟨by rw [h0 _ (by omega) (by omega) (by omega)]; exact h.1, fun k hk => by rw [h0 _ (by omega) (by omega) (by omega)]; exact h.2.1 k hk, fun w k hw hk => by rw [h0 _ (by omega) (by omega) (by omega)]; exact h.2.2.1 w k hw hk, fun r k hr hk => ?_⟩
  by_cases q : r = i
  · subst q; exact h1 k hk
  · rw [h0 _ (by omega) (by omega) (by omega), h2 r k hr hk q]; exact h.2.2.2 r k hr hk
/-- one place of six is taken out -/
def rm1 (r : Nat → Nat) (i : Nat) : Nat → Nat := fun j => if j < i then r j else if j < 5 then r (j + 1) else 0
theorem rm1_lo {r : Nat → Nat} {i j : Nat} (h : j < i) : rm1 r i j = r j := if_pos h
theorem rm1_mi {r : Nat → Nat} {i j : Nat} (h : i ≤ j) (h2 : j < 5) : rm1 r i j = r (j + 1) := by unfold rm1; rw [if_neg (by omega), if_pos h2]
theorem rm1_hi {r : Nat → Nat} {i j : Nat} (h : i ≤ j) (h2 : 5 ≤ j) : rm1 r i j = 0 := by unfold rm1; rw [if_neg (by omega), if_neg (by omega)]
theorem rm1_le {r : Nat → Nat} {i c : Nat} (h : ∀ j, j < 6 → r j ≤ c) {j : Nat} (hj : j < 6) : rm1 r i j ≤ c := by
  unfold rm1
  split
  · exact h j hj
  · split
    · exact h _ (by omega)
    · exact Nat.zero_le _
theorem rm1_0 {r : Nat → Nat} {i n : Nat} (hi : i < n) (h : ∀ j, n ≤ j → j < 6 → r j = 0) {j : Nat} (h1 : n - 1 ≤ j) (h2 : j < 6) : rm1 r i j = 0 := by
  unfold rm1
  rw [if_neg (by omega)]
  split
  · exact h _ (by omega) (by omega)
  · rfl
theorem rm1_z {r : Nat → Nat} {i j : Nat} (hj : j < 6) (h : ∀ j, j < 6 → r j = 0) : rm1 r i j = 0 := by
  have := rm1_le (r := r) (i := i) (c := 0) (fun j hj => by rw [h j hj]; exact Nat.le_refl _) hj
  omega
theorem rm1_sw (F : Nat → Nat → Nat) {i r c : Nat} : rm1 (fun r' => rm1 (fun c' => F r' c') i c) i r = rm1 (fun c' => rm1 (fun r' => F r' c') i r) i c := by
  unfold rm1
  (repeat' split) <;> rfl
def losN (p : Nat → Nat) (i : Nat) : Nat → Nat → Nat := fun r c => rm1 (fun r' => rm1 (fun c' => p (24 + 6 * r' + c')) i c) i r
def losA (p : Nat → Nat) (i : Nat) : Nat → Nat → Nat := fun v j => rm1 (fun j' => p (6 + 6 * v + j')) i j
def los (p : Nat → Nat) (i : Nat) : Nat → Nat := pg (p 60 - 1) (rm1 p i) (losA p i) (losN p i)
theorem okP_pg {sz : Nat} {m : Nat → Nat} {A N : Nat → Nat → Nat} (h1 : sz ≤ 6) (h2 : ∀ i, i < 6 → m i ≤ 1) (h3 : ∀ v i, v < 3 → i < 6 → A v i ≤ 2) (h4 : ∀ i j, i < 6 → j < 6 → N i j ≤ 2) (h5 : ∀ i, sz ≤ i → i < 6 → m i = 0) (h6 : ∀ v i, v < 3 → sz ≤ i → i < 6 → A v i = 0) (h7 : ∀ i j, i < 6 → j < 6 → (sz ≤ i ∨ sz ≤ j) → N i j = 0) : okP (pg sz m A N) := by
  refine ⟨h1, fun i hi => by rw [pg_m hi]; exact h2 i hi, fun v i hv hi => by rw [pg_A hv hi]; exact h3 v i hv hi, fun i j hi hj => by rw [pg_N hi hj]; exact h4 i j hi hj, fun i h hi => ?_⟩
  rw [pg_60] at h
  exact ⟨by rw [pg_m hi]; exact h5 i h hi, fun v hv => by rw [pg_A hv hi]; exact h6 v i hv h hi, fun j hj => ⟨by rw [pg_N hi hj]; exact h7 i j hi hj (Or.inl h), by rw [pg_N hj hi]; exact h7 j i hj hi (Or.inr h)⟩⟩
theorem okP_los {p : Nat → Nat} {i : Nat} (hp : okP p) (hi : i < p 60) : okP (los p i) := by
  have h6 := hp.1
  refine okP_pg (by omega) (fun j hj => rm1_le (fun k hk => hp.2.1 k hk) hj) (fun v j hv hj => rm1_le (fun k hk => hp.2.2.1 v k hv hk) hj) (fun r c hr hc => rm1_le (fun k hk => rm1_le (fun l hl => hp.2.2.2.1 k l hk hl) hc) hr) (fun j h1 h2 => rm1_0 hi (fun k q1 q2 => (hp.2.2.2.2 k q1 q2).1) h1 h2) (fun v j hv h1 h2 => rm1_0 hi (fun k q1 q2 => (hp.2.2.2.2 k q1 q2).2.1 v hv) h1 h2) (fun r c hr hc h => ?_)
  rcases h with h | h
  · exact rm1_0 hi (fun k q1 q2 => rm1_z hc (fun l hl => ((hp.2.2.2.2 k q1 q2).2.2 l hl).1)) h hr
  · exact rm1_z hr (fun k hk => rm1_0 hi (fun l q1 q2 => ((hp.2.2.2.2 l q1 q2).2.2 k hk).2) h hc)
section P30
variable {X : cX} {d : Nat} {μ : mM} {K : Option Value → mM → Prop} {f : Nat → Nat → Int32} {a b y v w : Nat} {p : Nat → Nat}
theorem c_closeGap {r i : Nat} {g : Nat → Nat} (hk : kd μ r = (1, 6)) (hi : i < 6) (hg : ∀ j, j < 6 → f r j = nI (g j)) (hK : ∀ f', (∀ z, z ≠ r → ∀ j, f' z j = f z j) → (∀ j, j < 6 → f' r j = nI (rm1 g i j)) → K none (sI μ f')) : Ct X (Rm (d + 1)) mX5_closeGap [.ref r, .int (nI i)] (sI μ f) K := by
  refine Ct_of rfl (Nat.le_of_ble_eq_true rfl) (b_X5_closeGap_0 (n0 := 6) (j0 := 5 - i) (hk_r0 := hk) (hi_j0 := pk_sub (a := 5) (by omega)) (hc := by omega) (hc_2 := by omega) (hb := by omega) (hK := ?_))
  rw [cpI_sI, wi_sI]
  refine hK _ (fun z hz j => by rw [u2_x hz, cp2_x hz]) (fun j hj => ?_)
  by_cases q : j = 5
  · subst q
    rw [u2_s, rm1_hi (by omega) (by omega)]; rfl
  · rw [u2_k q]
    unfold cp2
    by_cases q2 : i ≤ j
    · rw [if_pos ⟨rfl, q2, by omega⟩, rm1_mi q2 (by omega), show i + 1 + (j - i) = j + 1 by omega]
      exact hg _ (by omega)
    · rw [if_neg (by omega), rm1_lo (by omega)]
      exact hg j hj
theorem c_drop {i : Nat} (hw : WF5 μ a) (hs : Sh f a p) (hp : okP p) (hi : i < p 60) (hK : ∀ f', (∀ z, (z < a ∨ a + 13 ≤ z) → ∀ j, f' z j = f z j) → Sh f' a (los p i) → K none (sI μ f')) : Ct X (Rm (d + 2)) mX5_drop [.ref a, .int (nI i)] (sI μ f) K := by
  have h6 := hp.1
  have has : ¬ e_X5_has (sI μ f) a (nI i) = 0 := by
    unfold e_X5_has
    rw [iv_sI, hs.1, if_neg (nI_pos (by omega)), if_neg (ge_c hi (by omega))]
    decide
  have H3 : ∀ c, c ≤ 5 → i ≤ c → ∀ g, (∀ z, (z < a ∨ a + 13 ≤ z) → ∀ j, g z j = f z j) → S4 g a (p 60) (fun k => if k < c then rm1 p i k else p k) (losA p i) (fun r k => if r < c then losN p i r k else rm1 (fun c' => p (24 + 6 * r + c')) i k) → G X (Rm (d + 2)) mX5_drop 58 [(0, .ref a), (2, .int (nI c))] [] (sI μ g) 0 0 K := by
    refine dn 5 ?_ ?_
    · intro _ g h1 h2
      refine b_X5_drop_58 (hw5_r0 := hw) (hc_fill := fun _ => ?_) (hb := ?_) (hb_2 := ?_) (hz := ?_) (h := ?_)
      · rw [wi_sI]
        refine c_fill (w5_q3 hw 5 (by decide)) (by decide) (b_X5_drop_121 hw ?_)
        rw [wi_sI, iv_sI]
        have e1 : (flI (u2 g (a + 1) 5 0) (a + 7 + 5) 6 0) a 0 = nI (p 60) := by rw [flI_x (by omega), u2_x (by omega)]; exact h2.1
        have e2 : nI (p 60) - 1 = nI (p 60 - 1) := pk_sub (b := 1) (by omega)
        rw [e1, e2]
        have h3 := S4.um (i := 5) (n := 0) (m' := rm1 p i) h2 (by rw [rm1_hi (by omega) (by omega)]) (fun k hk hne => by (try dsimp only); rw [if_pos (by omega)])
        have h4 := S4.rN (g := flI (u2 g (a + 1) 5 0) (a + 7 + 5) 6 0) (i := 5) (N' := losN p i) h3 (by decide) (fun z hz _ _ j => flI_x hz) (fun j hj => by rw [flI_s hj]; unfold losN; rw [rm1_hi (by omega) (by omega)]; rfl) (fun r k hr hk hne => by (try dsimp only); rw [if_pos (by omega)])
        exact hK _ (fun z hz j => by rw [u2_x (by omega), flI_x (by omega), u2_x (by omega)]; exact h1 z hz j) (S4_pg (h4.uz _))
      all_goals (intro c; exact absurd (le_r _) c)
    · intro c hc ih hic g h1 h2
      have m1 := h2.2.1 (c + 1) (by omega)
      (try dsimp only at m1)
      rw [if_neg (by omega)] at m1
      refine b_X5_drop_58 (hw5_r0 := hw) (hc_fill := fun q => absurd q (ge_c (n := 5) hc (by decide))) (hb := fun _ => by omega) (hb_2 := fun _ => by omega) (hz := fun _ => by rw [iv_sI, m1]; exact b01 (hp.2.1 _ (by omega))) (h := fun _ => ?_)
      rw [iv_sI, m1, wi_sI, cpI_sI]
      have h3 := S4.um (i := c) (n := p (c + 1)) (m' := fun k => if k < c + 1 then rm1 p i k else p k) h2 (by (try dsimp only); rw [if_pos (by omega), rm1_mi hic hc]) (fun k hk hne => by
        (try dsimp only)
        by_cases q : k < c
        · rw [if_pos q, if_pos (by omega)]
        · rw [if_neg q, if_neg (by omega)])
      refine ih (by omega) _ (fun z hz j => by rw [cp2_x (by omega), u2_x (by omega)]; exact h1 z hz j) (S4.rN (i := c) h3 (by omega) (fun z hz _ _ j => cp2_x hz) (fun j hj => ?_) (fun r k hr hk hne => ?_))
      · rw [cp2_row hj]
        have := h3.2.2.2 (c + 1) j (by omega) hj
        (try dsimp only at this)
        rw [if_neg (by omega)] at this
        rw [this]
        (try dsimp only)
        rw [if_pos (by omega)]
        unfold losN
        rw [rm1_mi hic hc]
      · (try dsimp only)
        by_cases q : r < c
        · rw [if_pos q, if_pos (by omega)]
        · rw [if_neg q, if_neg (by omega)]
  have H2 : ∀ c, c ≤ 6 → ∀ g, (∀ z, (z < a ∨ a + 13 ≤ z) → ∀ j, g z j = f z j) → S4 g a (p 60) p (losA p i) (fun r k => if r < c then rm1 (fun c' => p (24 + 6 * r + c')) i k else p (24 + 6 * r + k)) → G X (Rm (d + 2)) mX5_drop 34 [(0, .ref a), (1, .int (nI i)), (2, .int (nI c))] [] (sI μ g) 0 0 K := by
    refine dn 6 ?_ ?_
    · intro g h1 h2
      refine b_X5_drop_34 (hw5_r0 := hw) (h := fun _ => H3 i (by omega) (Nat.le_refl _) g h1 (h2.cg (fun k hk => ?_) (fun _ _ _ _ => rfl) (fun r k hr hk => ?_))) (hb := ?_) (hc_closeGap := ?_)
      · (try dsimp only)
        by_cases q : k < i
        · rw [if_pos q, rm1_lo q]
        · rw [if_neg q]
      · (try dsimp only)
        rw [if_pos hr]
        by_cases q : r < i
        · rw [if_pos q]; unfold losN; rw [rm1_lo q]
        · rw [if_neg q]
      all_goals (intro c; exact absurd (le_r _) c)
    · intro c hc ih g h1 h2
      refine b_X5_drop_34 (hw5_r0 := hw) (h := fun q => absurd q (ge_c (n := 6) hc (by decide))) (hb := fun _ => hc) (hc_closeGap := fun _ => ?_)
      refine c_closeGap (g := fun c' => p (24 + 6 * c + c')) (w5_q3 hw c hc) (by omega) (fun j hj => ?_) (fun f' q1 q2 => b_X5_drop_50 (ih f' (fun z hz j => (q1 z (by omega) j).trans (h1 z hz j)) (S4.rN (i := c) h2 hc (fun z hz _ _ j => q1 z hz j) (fun j hj => ?_) (fun r k hr hk hne => ?_))))
      · have := h2.2.2.2 c j hc hj
        (try dsimp only at this)
        rw [if_neg (by omega)] at this
        exact this
      · (try dsimp only)
        rw [if_pos (by omega)]
        exact q2 j hj
      · (try dsimp only)
        by_cases q : r < c
        · rw [if_pos q, if_pos (by omega)]
        · rw [if_neg q, if_neg (by omega)]
  have H1 : ∀ c, c ≤ 3 → ∀ g, (∀ z, (z < a ∨ a + 13 ≤ z) → ∀ j, g z j = f z j) → S4 g a (p 60) p (fun v k => if v < c then losA p i v k else p (6 + 6 * v + k)) (fun r k => p (24 + 6 * r + k)) → G X (Rm (d + 2)) mX5_drop 11 [(0, .ref a), (1, .int (nI i)), (2, .int (nI c))] [] (sI μ g) 0 0 K := by
    refine dn 3 ?_ ?_
    · intro g h1 h2
      refine b_X5_drop_11 (hw5_r0 := hw) (h := fun _ => H2 0 (Nat.zero_le _) g h1 (h2.cg (fun k hk => rfl) (fun v k hv hk => ?_) (fun r k hr hk => ?_))) (hb := ?_) (hc_closeGap := ?_)
      · (try dsimp only)
        rw [if_pos hv]
      · (try dsimp only)
        rw [if_neg (Nat.not_lt_zero _)]
      all_goals (intro c; exact absurd (le_r _) c)
    · intro c hc ih g h1 h2
      refine b_X5_drop_11 (hw5_r0 := hw) (h := fun q => absurd q (ge_c (n := 3) hc (by decide))) (hb := fun _ => hc) (hc_closeGap := fun _ => ?_)
      refine c_closeGap (g := fun c' => p (6 + 6 * c + c')) (w5_q2 hw c hc) (by omega) (fun j hj => ?_) (fun f' q1 q2 => b_X5_drop_26 (ih f' (fun z hz j => (q1 z (by omega) j).trans (h1 z hz j)) (S4.rA (v := c) h2 hc (fun z hz _ _ j => q1 z hz j) (fun j hj => ?_) (fun r k hr hk hne => ?_))))
      · have := h2.2.2.1 c j hc hj
        (try dsimp only at this)
        rw [if_neg (by omega)] at this
        exact this
      · (try dsimp only)
        rw [if_pos (by omega)]
        exact q2 j hj
      · (try dsimp only)
        by_cases q : r < c
        · rw [if_pos q, if_pos (by omega)]
        · rw [if_neg q, if_neg (by omega)]
  refine Ct_of rfl (Nat.le_of_ble_eq_true rfl) (b_X5_drop_0 (hw5_r0 := hw) (h := fun _ => H1 0 (Nat.zero_le _) f (fun _ _ _ => rfl) ((S4_of hs).cg (fun _ _ => rfl) (fun v k _ _ => ?_) (fun _ _ _ _ => rfl))) (hK := fun c => absurd c has))
  (try dsimp only)
  rw [if_neg (Nat.not_lt_zero _)]
end P30
