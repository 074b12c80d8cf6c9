theorem dn {P : Nat → Prop} (n : Nat) (h0 : P n) (hs : ∀ i, i < n → P (i + 1) → P i) (i : Nat) (hi : i ≤ n) : P i := by
  have h : ∀ k j, j + k = n → P j := by
    intro k
    induction k with
    | zero => intro j hj; have e : j = n := by omega
              subst e; exact h0
    | succ k ih => intro j hj; exact hs j (by omega) (ih (j + 1) (by omega))
  exact h (n - i) i (by omega)
theorem sI_ext (μ : mM) {f g : Nat → Nat → Int32} (h : ∀ x j, f x j = g x j) : sI μ f = sI μ g := by
  have e : f = g := funext fun x => funext fun j => h x j
  rw [e]
theorem mxI {a b : Nat} (ha : a < 2 ^ 31) (hb : b < 2 ^ 31) : (if nI a < nI b then nI b else nI a) = nI (max a b) := by
  by_cases h : a < b
  · rw [if_pos ((nI_ltI ha hb).mpr h), Nat.max_eq_right (by omega)]
  · rw [if_neg (fun q => h ((nI_ltI ha hb).mp q)), Nat.max_eq_left (by omega)]
theorem mnI {a b : Nat} (ha : a < 2 ^ 31) (hb : b < 2 ^ 31) : (if nI b < nI a then nI b else nI a) = nI (min a b) := by
  by_cases h : b < a
  · rw [if_pos ((nI_ltI hb ha).mpr h), Nat.min_eq_right (by omega)]
  · rw [if_neg (fun q => h ((nI_ltI hb ha).mp q)), Nat.min_eq_left (by omega)]
theorem nI_surj (x : Int32) : ∃ j : Nat, j < 2 ^ 32 ∧ x = nI j := by
  refine ⟨x.toBitVec.toNat, x.toBitVec.isLt, ?_⟩
  apply Int32.toBitVec_inj.mp
  show x.toBitVec = BitVec.ofNat 32 x.toBitVec.toNat
  simp
theorem nI_neg {j : Nat} (h : 2 ^ 31 ≤ j) (h2 : j < 2 ^ 32) : nI j < 0 := by
  rw [Int32.lt_iff_toInt_lt]
  show (BitVec.ofNat 32 j).toInt < 0
  rw [BitVec.toInt_eq_toNat_cond, BitVec.toNat_ofNat, Nat.mod_eq_of_lt h2]
  split <;> omega
/-- the greatest of g 0 .. g (n - 1), and 0 -/
def mxo (g : Nat → Nat) : Nat → Nat
  | 0 => 0
  | n + 1 => max (mxo g n) (g n)
theorem mxo_le {g : Nat → Nat} {c n : Nat} (h : ∀ i, i < n → g i ≤ c) : mxo g n ≤ c := by
  induction n with
  | zero => exact Nat.zero_le _
  | succ n ih => exact Nat.max_le.mpr ⟨ih (fun i hi => h i (by omega)), h n (by omega)⟩
theorem mxo_congr {g g' : Nat → Nat} {n : Nat} (h : ∀ i, i < n → g i = g' i) : mxo g n = mxo g' n := by
  induction n with
  | zero => rfl
  | succ n ih => show max _ _ = max _ _; rw [ih (fun i hi => h i (by omega)), h n (by omega)]
/-- how many of p k0 .. p (k0 + n - 1) are t -/
def cq (p : Nat → Nat) (t k0 : Nat) : Nat → Nat
  | 0 => 0
  | n + 1 => cq p t k0 n + (if p (k0 + n) = t then 1 else 0)
theorem cq_le (p : Nat → Nat) (t k0 n : Nat) : cq p t k0 n ≤ n := by
  induction n with
  | zero => exact Nat.le_refl _
  | succ n ih => show cq p t k0 n + _ ≤ _; split <;> omega
theorem cq_add (p : Nat → Nat) (t k0 m n : Nat) : cq p t k0 (m + n) = cq p t k0 m + cq p t (k0 + m) n := by
  induction n with
  | zero => rfl
  | succ n ih =>
    show cq p t k0 (m + n) + (if p (k0 + (m + n)) = t then 1 else 0) = cq p t k0 m + (cq p t (k0 + m) n + (if p (k0 + m + n) = t then 1 else 0))
    rw [ih, show k0 + (m + n) = k0 + m + n by omega]
    omega
theorem cq_zero {p : Nat → Nat} {t k0 m n : Nat} (ht : t ≠ 0) (h : ∀ j, m ≤ j → j < m + n → p (k0 + j) = 0) : cq p t k0 (m + n) = cq p t k0 m := by
  induction n with
  | zero => rfl
  | succ n ih =>
    show cq p t k0 (m + n) + (if p (k0 + (m + n)) = t then 1 else 0) = _
    rw [ih (fun j h1 h2 => h j h1 (by omega)), h (m + n) (by omega) (by omega), if_neg (Ne.symm ht)]
    rfl
/-- a shape of the class at a tells the page p: 0-5 many, 6+6v+i at, 24+6i+j next, 60 size -/
def Sh (f : Nat → Nat → Int32) (a : Nat) (p : Nat → Nat) : Prop := f a 0 = nI (p 60) ∧ (∀ i, i < 6 → f (a + 1) i = nI (p i)) ∧ (∀ v i, v < 3 → i < 6 → f (a + 3 + v) i = nI (p (6 + 6 * v + i))) ∧ ∀ i j, i < 6 → j < 6 → f (a + 7 + i) j = nI (p (24 + 6 * i + j))
/-- a page of the reference's state at y, from place P on -/
def Pg (f : Nat → Nat → Int32) (y P : Nat) (p : Nat → Nat) : Prop := ∀ k, k < 61 → f (y + 1) (P + k) = nI (p k)
/-- a page as it must be -/
def okP (p : Nat → Nat) : Prop := p 60 ≤ 6 ∧ (∀ i, i < 6 → p i ≤ 1) ∧ (∀ v i, v < 3 → i < 6 → p (6 + 6 * v + i) ≤ 2) ∧ (∀ i j, i < 6 → j < 6 → p (24 + 6 * i + j) ≤ 2) ∧ ∀ i, p 60 ≤ i → i < 6 → p i = 0 ∧ (∀ v, v < 3 → p (6 + 6 * v + i) = 0) ∧ ∀ j, j < 6 → p (24 + 6 * i + j) = 0 ∧ p (24 + 6 * j + i) = 0
/-- outside the cells of a shape nothing has changed -/
def Fr (f f' : Nat → Nat → Int32) (lo n : Nat) : Prop := ∀ x, (x < lo ∨ lo + n ≤ x) → ∀ j, f' x j = f x j
theorem Fr.rf (f : Nat → Nat → Int32) (lo n : Nat) : Fr f f lo n := fun _ _ _ => rfl
theorem Fr.tr {f g h : Nat → Nat → Int32} {lo n : Nat} (h1 : Fr f g lo n) (h2 : Fr g h lo n) : Fr f h lo n := fun x hx j => (h2 x hx j).trans (h1 x hx j)
theorem Fr.wide {f g : Nat → Nat → Int32} {lo n lo' n' : Nat} (h1 : Fr f g lo n) (h2 : lo' ≤ lo) (h3 : lo + n ≤ lo' + n') : Fr f g lo' n' := fun x hx j => h1 x (by omega) j
theorem Fr_u2 {f g : Nat → Nat → Int32} {lo n a k : Nat} {v : Int32} (h1 : Fr f g lo n) (h2 : lo ≤ a) (h3 : a < lo + n) : Fr f (u2 g a k v) lo n := fun x hx j => by
  unfold u2
  rw [if_neg (fun q => by omega)]
  exact h1 x hx j
theorem u2_s (f : Nat → Nat → Int32) (a k : Nat) (v : Int32) : u2 f a k v a k = v := if_pos ⟨rfl, rfl⟩
theorem u2_x {f : Nat → Nat → Int32} {a k : Nat} {v : Int32} {x j : Nat} (h : x ≠ a) : u2 f a k v x j = f x j := if_neg (fun q => h q.1)
theorem u2_k {f : Nat → Nat → Int32} {a k : Nat} {v : Int32} {x j : Nat} (h : j ≠ k) : u2 f a k v x j = f x j := if_neg (fun q => h q.2)
/-- the ints of a row that were copied -/
def cp2 (f : Nat → Nat → Int32) (a0 sp a dp n : Nat) : Nat → Nat → Int32 := fun x j => if x = a ∧ dp ≤ j ∧ j < dp + n then f a0 (sp + (j - dp)) else f x j
theorem cpI_sI (μ : mM) (f : Nat → Nat → Int32) (a0 sp a dp n : Nat) : cpI (sI μ f) a0 sp a dp n = sI μ (cp2 f a0 sp a dp n) := rfl
theorem cp2_x {f : Nat → Nat → Int32} {a0 sp a dp n x j : Nat} (h : x ≠ a) : cp2 f a0 sp a dp n x j = f x j := if_neg (fun q => h q.1)
theorem cp2_row {f : Nat → Nat → Int32} {a0 a n j : Nat} (h : j < n) : cp2 f a0 0 a 0 n a j = f a0 j := by
  unfold cp2
  rw [if_pos ⟨rfl, Nat.zero_le _, by omega⟩]
  simp
theorem Fr_cp2 {f g : Nat → Nat → Int32} {lo n a0 sp a dp m : Nat} (h1 : Fr f g lo n) (h2 : lo ≤ a) (h3 : a < lo + n) : Fr f (cp2 g a0 sp a dp m) lo n := fun x hx j => by
  rw [cp2_x (by omega)]
  exact h1 x hx j
theorem ge_c {i n : Nat} (h : i < n) (hn : n < 2 ^ 31) : ¬ nI n ≤ nI i := nI_ge h hn
theorem le_r (x : Int32) : x ≤ x := Int32.le_refl x
section P20
variable {X : cX} {d : Nat} {μ : mM} {K : Option Value → mM → Prop} {f : Nat → Nat → Int32} {a v : Nat} {p : Nat → Nat}
def flI (f : Nat → Nat → Int32) (a n : Nat) (v : Int32) : Nat → Nat → Int32 := fun x j => if x = a ∧ j < n then v else f x j
theorem flI_x {n : Nat} {w : Int32} {x j : Nat} (h : x ≠ a) : flI f a n w x j = f x j := if_neg (fun q => h q.1)
theorem flI_s {n : Nat} {w : Int32} {j : Nat} (h : j < n) : flI f a n w a j = w := if_pos ⟨rfl, h⟩
theorem c_fill {n : Nat} {w : Int32} (hk : kd μ a = (1, n)) (hn : n < 2 ^ 31) (hK : K none (sI μ (flI f a n w))) : Ct X (Rm d) mJ7_fill_53178 [.ref a, .int w] (sI μ f) K := by
  refine Ct_of rfl (Nat.le_of_ble_eq_true rfl) (b_J7_fill_53178_0 hk ?_)
  have H : ∀ i, i ≤ n → G X (Rm d) mJ7_fill_53178 5 [(0, .ref a), (1, .int w), (2, .int (nI i)), (3, .int (nI n))] [] (sI μ (flI f a i w)) 0 0 K := by
    refine dn n ?_ ?_
    · exact b_J7_fill_53178_5 (n0 := n) (fun _ => hK) hk (fun c => absurd (le_r _) c) (fun c => absurd (le_r _) c)
    · intro i hi ih
      refine b_J7_fill_53178_5 (n0 := n) (fun c => absurd c (ge_c hi hn)) hk (fun _ => hi) (fun _ => ?_)
      rw [wi_sI, sI_ext μ (g := flI f a (i + 1) w)]
      · exact ih
      · intro x j
        unfold u2 flI
        by_cases hx : x = a <;> by_cases hj : j = i <;> simp [hx, hj] <;> (try omega)
        by_cases h1 : j < i
        · rw [if_pos h1, if_pos (by omega)]
        · rw [if_neg h1, if_neg (by omega)]
  rw [sI_ext μ (g := flI f a 0 w) (fun x j => by unfold flI; simp)]
  exact H 0 (Nat.zero_le _)
theorem c_append {n m : Nat} (hw : WF5 μ a) (hn : f a 0 = nI n) (hn6 : n < 6) (hm : m ≤ 1) (hK : K none (sI μ (u2 (u2 f (a + 1) n (nI m)) a 0 (nI (n + 1))))) : Ct X (Rm d) mX5_append [.ref a, .int (nI m)] (sI μ f) K := by
  refine Ct_of rfl (Nat.le_of_ble_eq_true rfl) (b_X5_append_0 (j0 := n) hw ?_ ?_ ?_ ?_ ?_)
  · intro c
    rw [iv_sI, hn] at c
    exact absurd c (ge_c (n := 6) hn6 (by decide))
  · intro _; rw [iv_sI, hn]
  · intro _; exact hn6
  · intro _
    rcases (by omega : m = 0 ∨ m = 1) with rfl | rfl
    · exact Or.inl rfl
    · exact Or.inr rfl
  · intro _
    rw [wi_sI, iv_sI, wi_sI, u2_x (by omega), hn, nI_1]
    exact hK
theorem c_holding (hw : WF5 μ a) (hs : Sh f a p) (hp : okP p) (hv : v < 3) (hK : K (some (.int (nI (mxo (fun i => p (6 + 6 * v + i)) (p 60))))) (sI μ f)) : Ct X (Rm (d + 1)) mX5_holding [.ref a, .int (nI v)] (sI μ f) K := by
  have h6 := hp.1
  refine Ct_of rfl (Nat.le_of_ble_eq_true rfl) (b_X5_holding_0 ?_)
  have H : ∀ i, i ≤ p 60 → G X (Rm (d + 1)) mX5_holding 4 [(0, .ref a), (1, .int (nI v)), (2, .int (nI (mxo (fun i => p (6 + 6 * v + i)) i))), (3, .int (nI i))] [] (sI μ f) 0 0 K := by
    refine dn (p 60) ?_ ?_
    · refine b_X5_holding_4 hw (fun _ => hK) ?_ ?_ ?_ <;> (intro c; rw [iv_sI, hs.1] at c; exact absurd (le_r _) c)
    · intro i hi ih
      refine b_X5_holding_4 hw (fun c => absurd c (by rw [iv_sI, hs.1]; exact ge_c hi (by omega))) (fun _ => hv) (fun _ => by omega) (fun _ => ?_)
      have hb : mxo (fun i => p (6 + 6 * v + i)) i ≤ 2 := mxo_le (fun k hk => hp.2.2.1 v k hv (by omega))
      have hc := hp.2.2.1 v i hv (by omega)
      rw [iv_sI, hs.2.2.1 v i hv (by omega), mxI (by omega) (by omega)]
      exact ih
  exact H 0 (Nat.zero_le _)
theorem c_clear (hw : WF5 μ a) (hK : ∀ f', Fr f f' a 24 → Sh f' a (fun _ => 0) → K none (sI μ f')) : Ct X (Rm (d + 1)) mX5_clear [.ref a] (sI μ f) K := by
  refine Ct_of rfl (Nat.le_of_ble_eq_true rfl) (b_X5_clear_0 hw ?_)
  rw [wi_sI]
  have H2 : ∀ i, i ≤ 6 → ∀ g, Fr f g a 24 → g a 0 = 0 → (∀ v j, v < 3 → j < 6 → g (a + 3 + v) j = 0) → (∀ k, k < i → g (a + 1) k = 0 ∧ ∀ j, j < 6 → g (a + 7 + k) j = 0) → G X (Rm (d + 1)) mX5_clear 30 [(0, .ref a), (1, .int (nI i))] [] (sI μ g) 0 0 K := by
    refine dn 6 ?_ ?_
    · intro g h1 h2 h3 h4
      refine b_X5_clear_30 (fun _ => hK g h1 ⟨h2, fun i hi => (h4 i hi).1, fun v i hv hi => h3 v i hv hi, fun i j hi hj => (h4 i hi).2 j hj⟩) hw ?_ ?_ <;> (intro c; exact absurd (le_r _) c)
    · intro i hi ih g h1 h2 h3 h4
      refine b_X5_clear_30 (fun c => absurd c (ge_c hi (by decide))) hw (fun _ => hi) (fun _ => ?_)
      rw [wi_sI]
      refine c_fill (w5_q3 hw i hi) (by decide) (b_X5_clear_53 (ih _ ?_ ?_ ?_ ?_))
      · intro x hx j
        rw [flI_x (by omega)]
        exact Fr_u2 h1 (by omega) (by omega) x hx j
      · rw [flI_x (by omega), u2_x (by omega)]; exact h2
      · intro v j hv hj
        rw [flI_x (by omega), u2_x (by omega)]; exact h3 v j hv hj
      · intro k hk
        by_cases hki : k = i
        · subst hki
          exact ⟨by rw [flI_x (by omega), u2_s], fun j hj => flI_s hj⟩
        · refine ⟨by rw [flI_x (by omega), u2_k hki]; exact (h4 k (by omega)).1, fun j hj => ?_⟩
          rw [flI_x (by omega), u2_x (by omega)]
          exact (h4 k (by omega)).2 j hj
  have H1 : ∀ i, i ≤ 3 → ∀ g, Fr f g a 24 → g a 0 = 0 → (∀ v j, v < i → j < 6 → g (a + 3 + v) j = 0) → G X (Rm (d + 1)) mX5_clear 7 [(0, .ref a), (1, .int (nI i))] [] (sI μ g) 0 0 K := by
    refine dn 3 ?_ ?_
    · intro g h1 h2 h3
      refine b_X5_clear_7 (fun _ => H2 0 (Nat.zero_le _) g h1 h2 h3 (fun k hk => absurd hk (Nat.not_lt_zero _))) hw ?_ ?_ <;> (intro c; exact absurd (le_r _) c)
    · intro i hi ih g h1 h2 h3
      refine b_X5_clear_7 (fun c => absurd c (ge_c hi (by decide))) hw (fun _ => hi) (fun _ => ?_)
      refine c_fill (w5_q2 hw i hi) (by decide) (b_X5_clear_22 (ih _ ?_ ?_ ?_))
      · intro x hx j
        rw [flI_x (by omega)]
        exact h1 x hx j
      · rw [flI_x (by omega)]; exact h2
      · intro v j hv hj
        by_cases hvi : v = i
        · subst hvi; exact flI_s hj
        · rw [flI_x (by omega)]; exact h3 v j (by omega) hj
  exact H1 0 (Nat.zero_le _) _ (Fr_u2 (Fr.rf f a 24) (by omega) (by omega)) (u2_s f a 0 0) (fun v j hv => absurd hv (Nat.not_lt_zero _))
end P20
