/-- the first j < n with P j, else n -/
def fa (P : Nat → Bool) : Nat → Nat
  | 0 => 0
  | n + 1 => if fa P n < n then fa P n else if P n = true then n else n + 1
theorem fa_le (P : Nat → Bool) : ∀ n, fa P n ≤ n
  | 0 => Nat.le_refl _
  | n + 1 => by
    have := fa_le P n
    unfold fa
    split
    · omega
    · split <;> omega
theorem fa_more {P : Nat → Bool} {j : Nat} (h : fa P (j + 1) = j) : ∀ k, fa P (j + 1 + k) = j
  | 0 => h
  | k + 1 => by
    show (if fa P (j + 1 + k) < j + 1 + k then fa P (j + 1 + k) else if P (j + 1 + k) = true then j + 1 + k else j + 1 + k + 1) = j
    rw [fa_more h k, if_pos (by omega)]
theorem fa_hit {P : Nat → Bool} {i j : Nat} (h : fa P j = j) (hP : P j = true) (hj : j < i) : fa P i = j := by
  have h1 : fa P (j + 1) = j := by
    show (if fa P j < j then fa P j else if P j = true then j else j + 1) = j
    rw [if_neg (by omega), if_pos hP]
  have := fa_more h1 (i - (j + 1))
  rw [show j + 1 + (i - (j + 1)) = i by omega] at this
  exact this
theorem fa_step {P : Nat → Bool} {j : Nat} (h : fa P j = j) (hP : ¬ P j = true) : fa P (j + 1) = j + 1 := by
  show (if fa P j < j then fa P j else if P j = true then j else j + 1) = j + 1
  rw [if_neg (by omega), if_neg hP]
theorem fa_true {P : Nat → Bool} : ∀ n, fa P n < n → P (fa P n) = true
  | 0, h => absurd h (Nat.not_lt_zero _)
  | n + 1, h => by
    unfold fa at h ⊢
    by_cases q : fa P n < n
    · rw [if_pos q]; exact fa_true n q
    · rw [if_neg q] at h ⊢
      by_cases q2 : P n = true
      · rw [if_pos q2]; exact q2
      · rw [if_neg q2] at h; omega
def alF (F : Nat → Nat → Nat) (i j : Nat) : Nat → Bool
  | 0 => true
  | c + 1 => alF F i j c && decide (F c i = F c j)
def alk (p : Nat → Nat) (md i j : Nat) : Bool := alF (fun v k => p (6 + 6 * v + k)) i j 3 && (decide (md = 0) || alF (rchP p) i j 3)
theorem alF_mono {F : Nat → Nat → Nat} {i j : Nat} : ∀ c k, alF F i j (c + k) = true → alF F i j c = true
  | _, 0, h => h
  | c, k + 1, h => alF_mono c k (Bool.and_eq_true_iff.mp (show (alF F i j (c + k) && _) = true from h)).1
theorem alF_at {F : Nat → Nat → Nat} {i j n : Nat} (h : alF F i j n = true) {c : Nat} (hc : c < n) : F c i = F c j := by
  have h1 := alF_mono (c + 1) (n - (c + 1)) (by rw [show c + 1 + (n - (c + 1)) = n by omega]; exact h)
  exact of_decide_eq_true (Bool.and_eq_true_iff.mp (show (alF F i j c && _) = true from h1)).2
theorem alF_not {F : Nat → Nat → Nat} {i j c n : Nat} (hc : c < n) (h : F c i ≠ F c j) : ¬ alF F i j n = true := fun q => h (alF_at q hc)
theorem alF_step {F : Nat → Nat → Nat} {i j c : Nat} (h : alF F i j c = true) (h2 : F c i = F c j) : alF F i j (c + 1) = true := by
  show (alF F i j c && decide (F c i = F c j)) = true
  rw [h, decide_eq_true h2]; rfl
theorem alk_at {p : Nat → Nat} {md i j v : Nat} (h : alk p md i j = true) (hv : v < 3) : p (6 + 6 * v + i) = p (6 + 6 * v + j) := alF_at (F := fun v k => p (6 + 6 * v + k)) (Bool.and_eq_true_iff.mp h).1 hv
/-- which earlier node a node is put to, or itself -/
def fj (p : Nat → Nat) (md i : Nat) : Nat := fa (alk p md i) i
theorem fj_le (p : Nat → Nat) (md i : Nat) : fj p md i ≤ i := fa_le _ _
def gc (p : Nat → Nat) (md : Nat) : Nat → Nat
  | 0 => 0
  | i + 1 => if fj p md i < i then gc p md i else gc p md i + 1
def gr (p : Nat → Nat) (md i : Nat) : Nat := if fj p md i < i then gr p md (fj p md i) else gc p md i
termination_by i
decreasing_by assumption
theorem gr_j {p : Nat → Nat} {md i : Nat} (h : fj p md i < i) : gr p md i = gr p md (fj p md i) := by rw [gr, if_pos h]
theorem gr_n {p : Nat → Nat} {md i : Nat} (h : ¬ fj p md i < i) : gr p md i = gc p md i := by rw [gr, if_neg h]
theorem gc_j {p : Nat → Nat} {md i : Nat} (h : fj p md i < i) : gc p md (i + 1) = gc p md i := if_pos h
theorem gc_n {p : Nat → Nat} {md i : Nat} (h : ¬ fj p md i < i) : gc p md (i + 1) = gc p md i + 1 := if_neg h
theorem gc_le (p : Nat → Nat) (md : Nat) : ∀ i, gc p md i ≤ i
  | 0 => Nat.le_refl _
  | i + 1 => by
    have := gc_le p md i
    by_cases h : fj p md i < i
    · rw [gc_j h]; omega
    · rw [gc_n h]; omega
theorem gc_s (p : Nat → Nat) (md i : Nat) : gc p md i ≤ gc p md (i + 1) := by
  by_cases h : fj p md i < i
  · rw [gc_j h]; omega
  · rw [gc_n h]; omega
theorem gc_mono {p : Nat → Nat} {md i : Nat} : ∀ k, gc p md i ≤ gc p md (i + k)
  | 0 => Nat.le_refl _
  | k + 1 => Nat.le_trans (gc_mono k) (gc_s p md (i + k))
theorem gr_lt {p : Nat → Nat} {md : Nat} : ∀ n i, i < n → gr p md i < gc p md n
  | 0, _, h => absurd h (Nat.not_lt_zero _)
  | n + 1, i, h => by
    by_cases q : i < n
    · exact Nat.lt_of_lt_of_le (gr_lt n i q) (gc_s p md n)
    · have e : i = n := by omega
      subst e
      by_cases r : fj p md i < i
      · rw [gr_j r, gc_j r]; exact gr_lt i _ r
      · rw [gr_n r, gc_n r]; omega
/-- a group that is new has none of its nodes ahead -/
theorem gr_first {p : Nat → Nat} {md i : Nat} : (∀ j, j < i → gr p md j ≠ gr p md i) ↔ ¬ fj p md i < i := by
  constructor
  · intro h q
    exact h _ q (gr_j q).symm
  · intro h j hj q
    have := gr_lt (p := p) (md := md) i j hj
    rw [q, gr_n h] at this
    omega
/-- each group below the count has a node -/
theorem gr_some {p : Nat → Nat} {md : Nat} : ∀ n g, g < gc p md n → ∃ i, i < n ∧ gr p md i = g
  | 0, g, h => absurd h (Nat.not_lt_zero _)
  | n + 1, g, h => by
    by_cases r : fj p md n < n
    · rw [gc_j r] at h
      obtain ⟨i, h1, h2⟩ := gr_some n g h
      exact ⟨i, by omega, h2⟩
    · rw [gc_n r] at h
      by_cases q : g < gc p md n
      · obtain ⟨i, h1, h2⟩ := gr_some n g q
        exact ⟨i, by omega, h2⟩
      · exact ⟨n, by omega, by rw [gr_n r]; omega⟩
def fdm (p : Nat → Nat) (md : Nat) : Nat → Nat → Nat
  | 0 => fun _ => 0
  | i + 1 => fun g => if g = gr p md i then (if fj p md i < i then 1 else p i) else fdm p md i g
def fdA (p : Nat → Nat) (md : Nat) : Nat → Nat → Nat → Nat
  | 0 => fun _ _ => 0
  | i + 1 => fun v g => if g = gr p md i then p (6 + 6 * v + i) else fdA p md i v g
theorem fdA_rep {p : Nat → Nat} {md v : Nat} (hv : v < 3) : ∀ n j, j < n → fdA p md n v (gr p md j) = p (6 + 6 * v + j)
  | 0, j, h => absurd h (Nat.not_lt_zero _)
  | n + 1, j, h => by
    show (if gr p md j = gr p md n then p (6 + 6 * v + n) else fdA p md n v (gr p md j)) = _
    by_cases e : j = n
    · subst e; rw [if_pos rfl]
    · have hj : j < n := by omega
      by_cases q : gr p md j = gr p md n
      · rw [if_pos q]
        have hl := gr_lt (p := p) (md := md) n j hj
        have r : fj p md n < n := Decidable.byContradiction fun r => by rw [q, gr_n r] at hl; omega
        have e1 : p (6 + 6 * v + n) = p (6 + 6 * v + fj p md n) := alk_at (fa_true n r) hv
        have e2 := fdA_rep (p := p) (md := md) hv n _ r
        rw [e1, ← e2, ← gr_j r, ← q]
        exact fdA_rep hv n j hj
      · rw [if_neg q]; exact fdA_rep hv n j hj
theorem fdm_0 {p : Nat → Nat} {md : Nat} : ∀ n g, gc p md n ≤ g → fdm p md n g = 0
  | 0, _, _ => rfl
  | n + 1, g, h => by
    have h1 := gr_lt (p := p) (md := md) (n + 1) n (by omega)
    have h2 := gc_s p md n
    show (if g = gr p md n then _ else fdm p md n g) = 0
    rw [if_neg (by omega)]
    exact fdm_0 n g (by omega)
theorem fdA_0 {p : Nat → Nat} {md v : Nat} : ∀ n g, gc p md n ≤ g → fdA p md n v g = 0
  | 0, _, _ => rfl
  | n + 1, g, h => by
    have h1 := gr_lt (p := p) (md := md) (n + 1) n (by omega)
    have h2 := gc_s p md n
    show (if g = gr p md n then _ else fdA p md n v g) = 0
    rw [if_neg (by omega)]
    exact fdA_0 n g (by omega)
theorem fdm_le {p : Nat → Nat} {md c : Nat} (hc : 1 ≤ c) : ∀ n, (∀ i, i < n → p i ≤ c) → ∀ g, fdm p md n g ≤ c
  | 0, _, _ => Nat.zero_le _
  | n + 1, h, g => by
    show (if g = gr p md n then (if fj p md n < n then 1 else p n) else fdm p md n g) ≤ c
    split
    · split
      · exact hc
      · exact h n (by omega)
    · exact fdm_le hc n (fun i hi => h i (by omega)) g
theorem fdA_le {p : Nat → Nat} {md c v : Nat} : ∀ n, (∀ i, i < n → p (6 + 6 * v + i) ≤ c) → ∀ g, fdA p md n v g ≤ c
  | 0, _, _ => Nat.zero_le _
  | n + 1, h, g => by
    show (if g = gr p md n then p (6 + 6 * v + n) else fdA p md n v g) ≤ c
    split
    · exact h n (by omega)
    · exact fdA_le n (fun i hi => h i (by omega)) g
/-- leads-to of the folded one; 3: not met -/
def ms (p g : Nat → Nat) (M : Nat → Nat → Nat) (i j : Nat) : Nat → Nat → Nat := fun a b => if a = g i ∧ b = g j then (if M a b = 3 ∨ M a b = p (24 + 6 * i + j) then p (24 + 6 * i + j) else 1) else M a b
def mr (p g : Nat → Nat) (M : Nat → Nat → Nat) (i : Nat) : Nat → Nat → Nat → Nat
  | 0 => M
  | j + 1 => ms p g (mr p g M i j) i j
def mm (p g : Nat → Nat) (n : Nat) : Nat → Nat → Nat → Nat
  | 0 => fun _ _ => 3
  | i + 1 => mr p g (mm p g n i) i n
theorem ms_le {p g : Nat → Nat} {M : Nat → Nat → Nat} {i j : Nat} (h : p (24 + 6 * i + j) ≤ 2) (hM : ∀ a b, M a b ≤ 3) (a b : Nat) : ms p g M i j a b ≤ 3 := by
  unfold ms
  split
  · split <;> omega
  · exact hM a b
theorem mr_le {p g : Nat → Nat} {M : Nat → Nat → Nat} {i : Nat} (hM : ∀ a b, M a b ≤ 3) : ∀ n, (∀ j, j < n → p (24 + 6 * i + j) ≤ 2) → ∀ a b, mr p g M i n a b ≤ 3
  | 0, _, a, b => hM a b
  | n + 1, h, a, b => ms_le (h n (by omega)) (mr_le hM n (fun j hj => h j (by omega))) a b
theorem mm_le {p g : Nat → Nat} {n : Nat} : ∀ m, (∀ i j, i < m → j < n → p (24 + 6 * i + j) ≤ 2) → ∀ a b, mm p g n m a b ≤ 3
  | 0, _, _, _ => Nat.le_refl _
  | m + 1, h, a, b => mr_le (mm_le m (fun i j hi hj => h i j (by omega) hj)) n (fun j hj => h m j (by omega) hj) a b
theorem ms_keep {p g : Nat → Nat} {M : Nat → Nat → Nat} {i j a b : Nat} (h : p (24 + 6 * i + j) ≤ 2) (hM : M a b ≠ 3) : ms p g M i j a b ≠ 3 := by
  unfold ms
  split
  · split <;> omega
  · exact hM
theorem mr_keep {p g : Nat → Nat} {M : Nat → Nat → Nat} {i a b : Nat} (hM : M a b ≠ 3) : ∀ n, (∀ j, j < n → p (24 + 6 * i + j) ≤ 2) → mr p g M i n a b ≠ 3
  | 0, _ => hM
  | n + 1, h => ms_keep (h n (by omega)) (mr_keep hM n (fun j hj => h j (by omega)))
theorem mr_met {p g : Nat → Nat} {M : Nat → Nat → Nat} {i j : Nat} : ∀ n, (∀ j, j < n → p (24 + 6 * i + j) ≤ 2) → j < n → mr p g M i n (g i) (g j) ≠ 3
  | 0, _, hj => absurd hj (Nat.not_lt_zero _)
  | n + 1, h, hj => by
    by_cases e : j = n
    · subst e
      have := h j (by omega)
      show ms p g (mr p g M i j) i j (g i) (g j) ≠ 3
      unfold ms
      rw [if_pos ⟨rfl, rfl⟩]
      split <;> omega
    · exact ms_keep (h n (by omega)) (mr_met n (fun j hj => h j (by omega)) (by omega))
theorem mm_met {p g : Nat → Nat} {n i j : Nat} : ∀ m, (∀ i j, i < m → j < n → p (24 + 6 * i + j) ≤ 2) → i < m → j < n → mm p g n m (g i) (g j) ≠ 3
  | 0, _, hi, _ => absurd hi (Nat.not_lt_zero _)
  | m + 1, h, hi, hj => by
    by_cases e : i = m
    · subst e; exact mr_met n (fun j hj => h i j (by omega) hj) hj
    · exact mr_keep (mm_met m (fun i j hi hj => h i j (by omega) hj) (by omega) hj) n (fun j hj => h m j (by omega) hj)
theorem mr_un {p g : Nat → Nat} {M : Nat → Nat → Nat} {i a b : Nat} : ∀ n, (∀ j, j < n → ¬ (a = g i ∧ b = g j)) → mr p g M i n a b = M a b
  | 0, _ => rfl
  | n + 1, h => by
    show ms p g (mr p g M i n) i n a b = _
    unfold ms
    rw [if_neg (h n (by omega))]
    exact mr_un n (fun j hj => h j (by omega))
theorem mm_un {p g : Nat → Nat} {n a b : Nat} : ∀ m, (∀ i j, i < m → j < n → ¬ (a = g i ∧ b = g j)) → mm p g n m a b = 3
  | 0, _ => rfl
  | m + 1, h => by
    show mr p g (mm p g n m) m n a b = 3
    rw [mr_un n (fun j hj => h m j (by omega) hj)]
    exact mm_un m (fun i j hi hj => h i j (by omega) hj)
def fdN (p : Nat → Nat) (md : Nat) : Nat → Nat → Nat := fun a b => if mm p (gr p md) (p 60) (p 60) a b = 3 then 0 else mm p (gr p md) (p 60) (p 60) a b
def foldP (p : Nat → Nat) (md : Nat) : Nat → Nat := pg (gc p md (p 60)) (fdm p md (p 60)) (fdA p md (p 60)) (fdN p md)
theorem mm_3 {p : Nat → Nat} (hp : okP p) {md a b : Nat} : mm p (gr p md) (p 60) (p 60) a b = 3 ↔ ¬ (a < gc p md (p 60) ∧ b < gc p md (p 60)) := by
  have h6 := hp.1
  have h2 : ∀ i j, i < p 60 → j < p 60 → p (24 + 6 * i + j) ≤ 2 := fun i j hi hj => hp.2.2.2.1 i j (by omega) (by omega)
  constructor
  · intro h q
    obtain ⟨i, hi, rfl⟩ := gr_some _ _ q.1
    obtain ⟨j, hj, rfl⟩ := gr_some _ _ q.2
    exact mm_met (p 60) h2 hi hj h
  · intro h
    refine mm_un _ (fun i j hi hj q => h ?_)
    rw [q.1, q.2]
    exact ⟨gr_lt _ _ hi, gr_lt _ _ hj⟩
theorem okP_fold {p : Nat → Nat} (hp : okP p) (md : Nat) : okP (foldP p md) := by
  have h6 := hp.1
  have hc := gc_le p md (p 60)
  have h2 : ∀ i j, i < p 60 → j < p 60 → p (24 + 6 * i + j) ≤ 2 := fun i j hi hj => hp.2.2.2.1 i j (by omega) (by omega)
  refine okP_pg (by omega) (fun i hi => fdm_le (Nat.le_refl _) _ (fun j hj => hp.2.1 j (by omega)) i) (fun v i hv hi => fdA_le _ (fun j hj => hp.2.2.1 v j hv (by omega)) i) (fun i j hi hj => ?_) (fun i h1 _ => fdm_0 _ _ h1) (fun v i _ h1 _ => fdA_0 _ _ h1) (fun i j hi hj h => ?_)
  · unfold fdN
    have := mm_le (g := gr p md) (n := p 60) (p 60) h2 i j
    split <;> omega
  · unfold fdN
    rw [if_pos ((mm_3 hp).mpr (by omega))]
def ecN (x : Nat) : Nat := if x = 3 then 2 ^ 32 - 1 else x
theorem ecN_3 : nI (ecN 3) = -1 := by decide
theorem ecN_n {x : Nat} (h : x ≠ 3) : ecN x = x := if_neg h
theorem ecN_m1 {x : Nat} (h : x ≤ 3) : nI (ecN x) = -1 ↔ x = 3 := by
  rcases (by omega : x = 0 ∨ x = 1 ∨ x = 2 ∨ x = 3) with rfl | rfl | rfl | rfl <;> decide
theorem ecN_eq {x t : Nat} (h : x ≤ 3) (hx : x ≠ 3) (ht : t ≤ 2) : nI (ecN x) = nI t ↔ x = t := by
  rw [ecN_n hx]; exact nI_eq (by omega) (by omega)
section P32
variable {X : cX} {d : Nat} {μ : mM} {K : Option Value → mM → Prop} {f : Nat → Nat → Int32} {a b y v w : Nat} {p : Nat → Nat}
theorem c_alike {r q i j : Nat} {F : Nat → Nat → Nat} (hk : kd μ r = (4, 3)) (hr : ∀ c, c < 3 → rv μ r c = some (q + c)) (hq : ∀ c, c < 3 → kd μ (q + c) = (1, 6)) (hi : i < 6) (hj : j < 6) (hF : ∀ c k, c < 3 → (k = i ∨ k = j) → f (q + c) k = nI (F c k) ∧ F c k < 2 ^ 31) (hK : K (some (.int (nI (if alF F i j 3 = true then 1 else 0)))) (sI μ f)) : Ct X (Rm d) mX2_alike [.ref r, .int (nI i), .int (nI j)] (sI μ f) K := by
  refine Ct_of rfl (Nat.le_of_ble_eq_true rfl) (b_X2_alike_0 ?_)
  have H : ∀ c, c ≤ 3 → alF F i j c = true → G X (Rm d) mX2_alike 2 [(0, .ref r), (1, .int (nI i)), (2, .int (nI j)), (3, .int (nI c))] [] (sI μ f) 0 0 K := by
    refine dn 3 ?_ ?_
    · intro h
      rw [if_pos h] at hK
      refine b_X2_alike_2 (n0 := 3) (n1 := 6) (p0 := q) (hK := fun _ => hK) (hk_r0 := hk) (hb := ?_) (hr_p0 := ?_) (hk_p0 := hq 0 (by decide)) (hb_2 := ?_) (hb_3 := ?_) (h := ?_) (hK_2 := ?_) <;> (intro c; exact absurd (le_r _) c)
    · intro c hc ih h
      have e1 := hF c i hc (Or.inl rfl)
      have e2 := hF c j hc (Or.inr rfl)
      have i1 : iv (sI μ f) (q + c) i = nI (F c i) := e1.1
      have i2 : iv (sI μ f) (q + c) j = nI (F c j) := e2.1
      refine b_X2_alike_2 (n0 := 3) (n1 := 6) (p0 := q + c) (hK := fun z => absurd z (ge_c (n := 3) hc (by decide))) (hk_r0 := hk) (hb := fun _ => hc) (hr_p0 := fun _ => hr c hc) (hk_p0 := hq c hc) (hb_2 := fun _ => hi) (hb_3 := fun _ => hj) (h := fun _ z => ih (alF_step h ?_)) (hK_2 := fun _ z => ?_)
      · rw [i1, i2] at z
        exact (nI_eq e1.2 e2.2).mp z
      · rw [i1, i2, nI_eq e1.2 e2.2] at z
        rw [if_neg (alF_not hc z)] at hK
        exact hK
  exact H 0 (Nat.zero_le _) rfl
/-- the folded shape while its nodes come -/
def FS (f : Nat → Nat → Int32) (b md : Nat) (p : Nat → Nat) (i : Nat) : Prop := S4 f (b + 1) (gc p md i) (fdm p md i) (fdA p md i) (fun _ _ => 0) ∧ ∀ j, j < i → f (b + 25) j = nI (gr p md j)
theorem S4.fr {g : Nat → Nat → Int32} {sz : Nat} {m : Nat → Nat} {A N : Nat → Nat → Nat} (h : S4 f a sz m A N) (h0 : ∀ z, a ≤ z → z < a + 13 → ∀ j, g z j = f z j) : S4 g a sz m A N :=
  ⟨by rw [h0 _ (by omega) (by omega)]; exact h.1, fun i hi => by rw [h0 _ (by omega) (by omega)]; exact h.2.1 i hi, fun v i hv hi => by rw [h0 _ (by omega) (by omega)]; exact h.2.2.1 v i hv hi, fun i j hi hj => by rw [h0 _ (by omega) (by omega)]; exact h.2.2.2 i j hi hj⟩
theorem c_joinGroup {i md : Nat} (hwa : WF5 μ a) (hwb : WF2 μ b) (hwb1 : WF5 μ (b + 1)) (hab : a + 24 ≤ b ∨ b + 26 ≤ a) (hs : Sh f a p) (hp : okP p) (hmd : md ≤ 1) (hi : i < p 60) (hr : ∀ v j, v < 3 → j < p 60 → f (a + 21 + v) j = nI (rchP p v j)) (hF : FS f b md p i) (hK : ∀ f', (∀ z, (z < b + 1 ∨ b + 26 ≤ z) → ∀ j, f' z j = f z j) → FS f' b md p (i + 1) → K none (sI μ f')) : Ct X (Rm (d + 1)) mX2_joinGroup [.ref b, .ref a, .int (nI md), .int (nI i)] (sI μ f) K := by
  have h6 := hp.1
  have hcl := gc_le p md i
  refine Ct_of rfl (Nat.le_of_ble_eq_true rfl) (b_X2_joinGroup_0 ?_)
  -- a new group
  have N2 : ¬ fj p md i < i → ∀ c, c ≤ 3 → ∀ g, (∀ z, (z < b + 1 ∨ b + 26 ≤ z) → ∀ j, g z j = f z j) → S4 g (b + 1) (gc p md i) (fdm p md i) (fun v k => if v < c then fdA p md (i + 1) v k else fdA p md i v k) (fun _ _ => 0) → (∀ j, j < i + 1 → g (b + 25) j = nI (gr p md j)) → G X (Rm (d + 1)) mX2_joinGroup 91 [(0, .ref b), (1, .ref a), (3, .int (nI i)), (4, .int (nI c))] [] (sI μ g) 0 0 K := by
    intro hn
    have eg := gr_n hn
    refine dn 3 ?_ ?_
    · intro g h1 h2 h3
      have m1 : g (a + 1) i = nI (p i) := by rw [h1 _ (by omega)]; exact hs.2.1 i (by omega)
      refine b_X2_joinGroup_91 (j0 := 0) (hw2_r0 := hwb) (hw5_r1 := hwa) (hb := fun _ => by omega) (hw5_r01 := hwb1) (hc_append := fun _ => ?_) (hb_2 := ?_) (hb_3 := ?_) (hi_j0 := ?_) (hb_4 := ?_) (h := ?_)
      · rw [iv_sI, m1]
        refine c_append (n := gc p md i) hwb1 h2.1 (by omega) (hp.2.1 i (by omega)) (b_X2_joinGroup_143 (hK _ (fun z hz j => by rw [u2_x (by omega), u2_x (by omega)]; exact h1 z hz j) ⟨?_, fun j hj => by rw [u2_x (by omega), u2_x (by omega)]; exact h3 j hj⟩))
        have q1 := S4.um (i := gc p md i) (n := p i) (m' := fdm p md (i + 1)) h2 (by show (if gc p md i = gr p md i then (if fj p md i < i then 1 else p i) else _) = _; rw [if_pos eg.symm, if_neg hn]) (fun k hk hne => by show (if k = gr p md i then _ else fdm p md i k) = _; rw [if_neg (by omega)])
        have q2 := q1.uz (gc p md i + 1)
        rw [← gc_n hn] at q2 ⊢
        exact q2.cg (fun _ _ => rfl) (fun v k hv hk => by (try dsimp only); rw [if_pos hv]) (fun _ _ _ _ => rfl)
      all_goals (intro c; exact absurd (le_r _) c)
    · intro c hc ih g h1 h2 h3
      have m1 : g (a + 3 + c) i = nI (p (6 + 6 * c + i)) := by rw [h1 _ (by omega)]; exact hs.2.2.1 c i hc (by omega)
      refine b_X2_joinGroup_91 (j0 := gc p md i) (hw2_r0 := hwb) (hw5_r1 := hwa) (hb := fun _ => by omega) (hw5_r01 := hwb1) (hc_append := fun z => absurd z (ge_c (n := 3) hc (by decide))) (hb_2 := fun _ => hc) (hb_3 := fun _ => by omega) (hi_j0 := fun _ => h2.1) (hb_4 := fun _ => by omega) (h := fun _ => ?_)
      rw [iv_sI, m1, wi_sI]
      refine ih _ (fun z hz j => by rw [u2_x (by omega)]; exact h1 z hz j) (S4.uA h2 hc ?_ (fun w k hw hk hne => ?_)) (fun j hj => by rw [u2_x (by omega)]; exact h3 j hj)
      · (try dsimp only)
        rw [if_pos (by omega)]
        show (if gc p md i = gr p md i then p (6 + 6 * c + i) else _) = _
        rw [if_pos eg.symm]
      · (try dsimp only)
        by_cases q : w < c
        · rw [if_pos q, if_pos (by omega)]
        · rw [if_neg q]
          by_cases q2 : w < c + 1
          · rw [if_pos q2]
            show (if k = gr p md i then _ else fdA p md i w k) = _
            rw [if_neg (by omega)]
          · rw [if_neg q2]
  have J : ∀ j, j < i → fj p md i = j → G X (Rm (d + 1)) mX2_joinGroup 39 [(0, .ref b), (3, .int (nI i)), (4, .int (nI j))] [] (sI μ f) 0 0 K := by
    intro j hj e
    have hlt : fj p md i < i := by omega
    have eg := gr_j hlt
    rw [e] at eg
    have hg := hF.2 j hj
    have hgl := gr_lt (p := p) (md := md) i j hj
    have e1 : iv (sI μ f) (b + 25) j = nI (gr p md j) := hg
    refine b_X2_joinGroup_39 (j0 := gr p md j) (hw2_r0 := hwb) (hb := by omega) (hb_2 := by omega) (hw5_r01 := hwb1) (hi_j0 := ?_) (hb_3 := by omega) (hK := ?_)
    · rw [wi_sI, iv_sI, u2_k (by omega)]; exact hg
    · rw [e1, wi_sI, wi_sI]
      refine hK _ (fun z hz k => by rw [u2_x (by omega), u2_x (by omega)]) ⟨?_, fun k hk => ?_⟩
      · have q0 : S4 (u2 f (b + 25) i (nI (gr p md j))) (b + 1) (gc p md i) (fdm p md i) (fdA p md i) (fun _ _ => 0) := hF.1.fr (fun z h1 h2 k => u2_x (by omega))
        have q1 := S4.um (i := gr p md j) (n := 1) (m' := fdm p md (i + 1)) q0 (by show (if gr p md j = gr p md i then (if fj p md i < i then 1 else p i) else _) = _; rw [if_pos eg.symm, if_pos hlt]) (fun k hk hne => by show (if k = gr p md i then _ else fdm p md i k) = _; rw [if_neg (by omega)])
        rw [gc_j hlt]
        refine q1.cg (fun _ _ => rfl) (fun v k hv hk => ?_) (fun _ _ _ _ => rfl)
        show (if k = gr p md i then p (6 + 6 * v + i) else fdA p md i v k) = _
        by_cases q : k = gr p md i
        · rw [if_pos q, q, eg, fdA_rep hv i j hj]
          have := alk_at (v := v) (fa_true i hlt) hv
          rw [show fa (alk p md i) i = j from e] at this
          exact this
        · rw [if_neg q]
      · rw [u2_x (by omega)]
        by_cases q : k = i
        · subst q; rw [u2_s, eg]
        · rw [u2_k q]; exact hF.2 k (by omega)
  have H : ∀ j, j ≤ i → fa (alk p md i) j = j → G X (Rm (d + 1)) mX2_joinGroup 3 [(0, .ref b), (1, .ref a), (2, .int (nI md)), (3, .int (nI i)), (4, .int (nI j))] [] (sI μ f) 0 0 K := by
    refine dn i ?_ ?_
    · intro h
      have hn : ¬ fj p md i < i := by unfold fj; omega
      have eg := gr_n hn
      refine b_X2_joinGroup_3 (hw2_r0 := hwb) (hw5_r01 := hwb1) (hb := fun _ => by omega) (h := fun _ => ?_) (hw5_r1 := hwa) (hc_alike := fun c => absurd (le_r _) c)
      have e1 : iv (sI μ f) (b + 1) 0 = nI (gc p md i) := hF.1.1
      rw [e1, wi_sI]
      refine N2 hn 0 (Nat.zero_le _) _ (fun z hz j => u2_x (by omega)) ?_ (fun j hj => ?_)
      · exact (hF.1.fr (fun z h1 h2 k => u2_x (by omega))).cg (fun _ _ => rfl) (fun v k _ _ => by (try dsimp only); rw [if_neg (Nat.not_lt_zero _)]) (fun _ _ _ _ => rfl)
      · by_cases q : j = i
        · subst q; rw [u2_s, eg]
        · rw [u2_k q]; exact hF.2 j (by omega)
    · intro j hj ih h
      refine b_X2_joinGroup_3 (hw2_r0 := hwb) (hw5_r01 := hwb1) (hb := fun c => absurd c (ge_c hj (by omega))) (h := fun c => absurd c (ge_c hj (by omega))) (hw5_r1 := hwa) (hc_alike := fun _ => ?_)
      have no : ¬ alk p md i j = true → G X (Rm (d + 1)) mX2_joinGroup 69 [(0, .ref b), (1, .ref a), (2, .int (nI md)), (3, .int (nI i)), (4, .int (nI j))] [] (sI μ f) 0 0 K := fun q => b_X2_joinGroup_69 (ih (fa_step h q))
      have yes : alk p md i j = true → G X (Rm (d + 1)) mX2_joinGroup 39 [(0, .ref b), (3, .int (nI i)), (4, .int (nI j))] [] (sI μ f) 0 0 K := fun q => J j hj (fa_hit h q hj)
      refine c_alike (q := a + 3) (F := fun v k => p (6 + 6 * v + k)) (w5_k2 hwa) (w5_r2 hwa) (w5_q2 hwa) (by omega) (by omega) (fun c k hc hk => ⟨hs.2.2.1 c k hc (by omega), by have := hp.2.2.1 c k hc (by omega); omega⟩) ?_
      refine b_X2_joinGroup_19 (hw5_r1 := hwa) (h := fun c => no (fun q => ?_)) (h_2 := fun c1 c2 => yes ?_) (hc_alike := fun c1 c2 => ?_)
      · have q1 := (Bool.and_eq_true_iff.mp q).1
        rw [if_pos q1] at c
        exact absurd c (by decide)
      · by_cases q : alF (fun v k => p (6 + 6 * v + k)) i j 3 = true
        · unfold alk
          rw [q, decide_eq_true ((nI_z (by omega)).mp c2)]; rfl
        · rw [if_neg q] at c1; exact absurd rfl c1
      · have q1 : alF (fun v k => p (6 + 6 * v + k)) i j 3 = true := Decidable.byContradiction fun q => by rw [if_neg q] at c1; exact absurd rfl c1
        have q2 : md ≠ 0 := fun q => c2 (by rw [q]; rfl)
        have ea : alk p md i j = alF (rchP p) i j 3 := by
          unfold alk
          rw [q1, decide_eq_false q2]; rfl
        refine c_alike (q := a + 21) (F := rchP p) (w5_k5 hwa) (w5_r5 hwa) (w5_q5 hwa) (by omega) (by omega) (fun c k hc hk => ⟨hr c k hc (by omega), by have := rchP_le hp (v := c) (j := k) hc; omega⟩) ?_
        refine b_X2_joinGroup_36 (h := fun c => no (fun q => ?_)) (h_2 := fun c => yes ?_)
        · rw [ea] at q
          rw [if_pos q] at c
          exact absurd c (by decide)
        · rw [ea]
          exact Decidable.byContradiction fun q => by rw [if_neg q] at c; exact absurd rfl c
  exact H 0 (Nat.zero_le _) rfl
end P32
