/-- one round of ways: all that may go by m -/
def fst1 (m : Nat) (u : Nat → Nat) : Nat → Nat := fun k => max (u k) (min (u (k / 6 * 6 + m)) (u (6 * m + k % 6)))
def wayF (p : Nat → Nat) : Nat → Nat → Nat
  | 0 => fun k => p (24 + k)
  | m + 1 => fst1 m (wayF p m)
theorem fst1_row {m : Nat} (hm : m < 6) (u : Nat → Nat) (i : Nat) : fst1 m u (6 * i + m) = u (6 * i + m) := by
  unfold fst1
  rw [show (6 * i + m) / 6 * 6 + m = 6 * i + m by omega]
  omega
theorem fst1_col {m : Nat} (u : Nat → Nat) {j : Nat} (hj : j < 6) : fst1 m u (6 * m + j) = u (6 * m + j) := by
  unfold fst1
  rw [show 6 * m + (6 * m + j) % 6 = 6 * m + j by omega]
  omega
theorem wayF_le {p : Nat → Nat} (hp : okP p) : ∀ m, m ≤ 6 → ∀ k, k < 36 → wayF p m k ≤ 2
  | 0, _, k, hk => by
    show p (24 + k) ≤ 2
    have := hp.2.2.2.1 (k / 6) (k % 6) (by omega) (by omega)
    rw [show 24 + 6 * (k / 6) + k % 6 = 24 + k by omega] at this
    exact this
  | m + 1, hm, k, hk => by
    have h1 := wayF_le hp m (by omega) k hk
    have h2 := wayF_le hp m (by omega) (k / 6 * 6 + m) (by omega)
    show max (wayF p m k) (min (wayF p m (k / 6 * 6 + m)) (wayF p m (6 * m + k % 6))) ≤ 2
    omega
def samP (p : Nat → Nat) (i j : Nat) : Nat := if i = j then (if p i = 1 then 1 else 2) else 0
theorem samP_le (p : Nat → Nat) (i j : Nat) : samP p i j ≤ 2 := by
  unfold samP
  split
  · split <;> omega
  · omega
def rchP (p : Nat → Nat) (v j : Nat) : Nat := mxo (fun i => min (p (6 + 6 * v + i)) (max (samP p i j) (wayF p (p 60) (6 * i + j)))) (p 60)
theorem rchP_le {p : Nat → Nat} (hp : okP p) {v j : Nat} (hv : v < 3) : rchP p v j ≤ 2 := by
  refine mxo_le (fun i hi => ?_)
  have := hp.1
  have := hp.2.2.1 v i hv (by omega)
  show min _ _ ≤ 2
  omega
def Pg0 (f : Nat → Nat → Int32) (y : Nat) (p : Nat → Nat) : Prop := ∀ k, k < 61 → f (y + 1) k = nI (p k)
theorem orI (μ : mM) {a b : Nat} (ha : a < 2 ^ 31) (hb : b < 2 ^ 31) : e_X12_or μ (nI a) (nI b) = nI (max a b) := by
  unfold e_X12_or
  by_cases h : a ≤ b
  · rw [if_pos ((nI_leI ha hb).mpr h), Nat.max_eq_right h]
  · rw [if_neg (fun q => h ((nI_leI ha hb).mp q)), Nat.max_eq_left (by omega)]
theorem andI (μ : mM) {a b : Nat} (ha : a < 2 ^ 31) (hb : b < 2 ^ 31) : e_X12_and μ (nI a) (nI b) = nI (min a b) := by
  unfold e_X12_and
  by_cases h : b ≤ a
  · rw [if_pos ((nI_leI hb ha).mpr h), Nat.min_eq_right h]
  · rw [if_neg (fun q => h ((nI_leI hb ha).mp q)), Nat.min_eq_left (by omega)]
theorem ix6a {k m : Nat} (hk : k < 2 ^ 31) : (((nI k) / 6) * 6) + (nI m) = nI (k / 6 * 6 + m) := by
  rw [show (6 : Int32) = nI 6 from rfl, pk_div hk (by decide) (by decide), pk_mul, nI_add]
theorem ix6b {k m : Nat} (hk : k < 2 ^ 31) : ((6 : Int32) * (nI m)) + ((nI k) - (nI k) / 6 * 6) = nI (6 * m + k % 6) := by
  rw [show (6 : Int32) = nI 6 from rfl, pk_rem hk (by decide) (by decide), pk_mul, nI_add]
section P22
variable {X : cX} {d : Nat} {μ : mM} {K : Option Value → mM → Prop} {f : Nat → Nat → Int32} {a y v : Nat} {p : Nat → Nat}
theorem m_routes (hw : WF12 μ y) (hg : Pg0 f y p) (hp : okP p) (hK : ∀ f', Fr f f' (y + 7) 1 → (∀ k, k < 36 → f' (y + 7) k = nI (wayF p (p 60) k)) → K none (sI μ f')) : Ct X (Rm (d + 1)) mX12_routesAll [.ref y] (sI μ f) K := by
  have h6 := hp.1
  refine Ct_of rfl (Nat.le_of_ble_eq_true rfl) (b_X12_routesAll_0 ?_)
  have nd : ∀ g, Fr f g (y + 7) 1 → e_X12_nodes (sI μ g) y = nI (p 60) := fun g hg1 => by
    show g (y + 1) 60 = _
    rw [hg1 (y + 1) (by omega)]
    exact hg 60 (by decide)
  have H3 : ∀ m, m < p 60 → ∀ k, k ≤ 36 → ∀ g, Fr f g (y + 7) 1 → (∀ r, r < 36 → g (y + 7) r = nI (if r < k then fst1 m (wayF p m) r else wayF p m r)) → (∀ g', Fr f g' (y + 7) 1 → (∀ r, r < 36 → g' (y + 7) r = nI (wayF p (m + 1) r)) → G X (Rm (d + 1)) mX12_routesAll 31 [(0, .ref y), (1, .int (nI (m + 1)))] [] (sI μ g') 0 0 K) → G X (Rm (d + 1)) mX12_routesAll 41 [(0, .ref y), (1, .int (nI m)), (2, .int (nI k))] [] (sI μ g) 0 0 K := by
    intro m hm
    refine dn 36 ?_ ?_
    · intro g h1 h2 hk
      refine b_X12_routesAll_41 (j0 := 0) (j1 := 0) (hw12_r0 := hw) (h := fun _ => hk g h1 (fun r hr => by rw [h2 r hr, if_pos hr]; rfl)) (hb := ?_) (hi_j0 := ?_) (hb_2 := ?_) (hi_j1 := ?_) (hb_3 := ?_) (h_2 := ?_) <;> (intro c; exact absurd (le_r _) c)
    · intro k hk ih g h1 h2 hc
      have w1 := wayF_le hp m (by omega) k hk
      have w2 := wayF_le hp m (by omega) (k / 6 * 6 + m) (by omega)
      have w3 := wayF_le hp m (by omega) (6 * m + k % 6) (by omega)
      refine b_X12_routesAll_41 (j0 := k / 6 * 6 + m) (j1 := 6 * m + k % 6) (hw12_r0 := hw) (h := fun c => absurd c (ge_c (n := 36) hk (by decide))) (hb := fun _ => hk) (hi_j0 := fun _ => ix6a (by omega)) (hb_2 := fun _ => by omega) (hi_j1 := fun _ => ix6b (by omega)) (hb_3 := fun _ => by omega) (h_2 := fun _ => ?_)
      have r0 : g (y + 7) k = nI (wayF p m k) := by rw [h2 k hk, if_neg (by omega)]
      have r1 : g (y + 7) (k / 6 * 6 + m) = nI (wayF p m (k / 6 * 6 + m)) := by
        rw [h2 _ (by omega), show k / 6 * 6 + m = 6 * (k / 6) + m by omega, fst1_row (by omega)]
        split <;> rfl
      have r2 : g (y + 7) (6 * m + k % 6) = nI (wayF p m (6 * m + k % 6)) := by
        rw [h2 _ (by omega), fst1_col _ (by omega)]
        split <;> rfl
      rw [iv_sI, iv_sI, iv_sI, r0, r1, r2, andI _ (by omega) (by omega), orI _ (by omega) (by omega), wi_sI]
      refine ih _ (Fr_u2 h1 (by omega) (by omega)) (fun r hr => ?_) hc
      by_cases hrk : r = k
      · subst hrk
        rw [u2_s, if_pos (by omega)]
        rfl
      · rw [u2_k hrk, h2 r hr]
        by_cases hlt : r < k
        · rw [if_pos hlt, if_pos (by omega)]
        · rw [if_neg hlt, if_neg (by omega)]
  have H2 : ∀ m, m ≤ p 60 → ∀ g, Fr f g (y + 7) 1 → (∀ r, r < 36 → g (y + 7) r = nI (wayF p m r)) → G X (Rm (d + 1)) mX12_routesAll 31 [(0, .ref y), (1, .int (nI m))] [] (sI μ g) 0 0 K := by
    refine dn (p 60) ?_ ?_
    · intro g h1 h2
      refine b_X12_routesAll_31 (hw12_r0 := hw) (hK := fun _ => hK g h1 h2) (h := fun c => absurd (by rw [nd g h1]; exact le_r _) c)
    · intro m hm ih g h1 h2
      refine b_X12_routesAll_31 (hw12_r0 := hw) (hK := fun c => absurd c (by rw [nd g h1]; exact ge_c hm (by omega))) (h := fun _ => ?_)
      exact H3 m hm 0 (Nat.zero_le _) g h1 (fun r hr => by rw [if_neg (Nat.not_lt_zero _)]; exact h2 r hr) ih
  have H1 : ∀ k, k ≤ 36 → ∀ g, Fr f g (y + 7) 1 → (∀ r, r < k → g (y + 7) r = nI (p (24 + r))) → G X (Rm (d + 1)) mX12_routesAll 2 [(0, .ref y), (1, .int (nI k))] [] (sI μ g) 0 0 K := by
    refine dn 36 ?_ ?_
    · intro g h1 h2
      refine b_X12_routesAll_2 (hw12_r0 := hw) (h := fun _ => H2 0 (Nat.zero_le _) g h1 h2) (hb := ?_) (hb_2 := ?_) (h_2 := ?_) <;> (intro c; exact absurd (le_r _) c)
    · intro k hk ih g h1 h2
      refine b_X12_routesAll_2 (hw12_r0 := hw) (h := fun c => absurd c (ge_c (n := 36) hk (by decide))) (hb := fun _ => by omega) (hb_2 := fun _ => hk) (h_2 := fun _ => ?_)
      rw [iv_sI, wi_sI]
      refine ih _ (Fr_u2 h1 (by omega) (by omega)) (fun r hr => ?_)
      by_cases hrk : r = k
      · subst hrk
        rw [u2_s, h1 (y + 1) (by omega)]
        exact hg (24 + r) (by omega)
      · rw [u2_k hrk]; exact h2 r (by omega)
  exact H1 0 (Nat.zero_le _) f (Fr.rf _ _ _) (fun r hr => absurd hr (Nat.not_lt_zero _))
theorem m_reach {j : Nat} (hw : WF12 μ y) (hg : Pg0 f y p) (hp : okP p) (hr : ∀ k, k < 36 → f (y + 7) k = nI (wayF p (p 60) k)) (hv : v < 3) (hj : j < 6) (hK : K (some (.int (nI (rchP p v j)))) (sI μ f)) : Ct X (Rm (d + 1)) mX12_reachOf [.ref y, .int (nI v), .int (nI j)] (sI μ f) K := by
  have h6 := hp.1
  refine Ct_of rfl (Nat.le_of_ble_eq_true rfl) (b_X12_reachOf_0 ?_)
  have nd : e_X12_nodes (sI μ f) y = nI (p 60) := hg 60 (by decide)
  have H : ∀ i, i ≤ p 60 → G X (Rm (d + 1)) mX12_reachOf 5 [(0, .ref y), (1, .int (nI v)), (2, .int (nI j)), (3, .int (nI (mxo (fun i => min (p (6 + 6 * v + i)) (max (samP p i j) (wayF p (p 60) (6 * i + j)))) i))), (4, .int (nI i))] [] (sI μ f) 0 0 K := by
    refine dn (p 60) ?_ ?_
    · refine b_X12_reachOf_5 (hw12_r0 := hw) (hK := fun _ => hK) (hs := ?_) (hs_2 := ?_) (hb := ?_) (h := ?_) <;> (intro c; rw [nd] at c; exact absurd (le_r _) c)
    · intro i hi ih
      refine b_X12_reachOf_5 (hw12_r0 := hw) (hK := fun c => absurd c (by rw [nd]; exact ge_c hi (by omega))) (hs := fun _ => by omega) (hs_2 := fun _ _ => by omega) (hb := fun _ => by omega) (h := fun _ => ?_)
      have e1 : e_X12_atOf (sI μ f) y v i = nI (p (6 + 6 * v + i)) := hg _ (by omega)
      have e2 : e_X12_sameOf (sI μ f) y i (nI j) = nI (samP p i j) := by
        unfold e_X12_sameOf samP
        by_cases hij : i = j
        · subst hij
          rw [if_pos rfl, if_pos rfl]
          have e3 : iv (sI μ f) (y + 1) i = nI (p i) := hg i (by omega)
          have hm := hp.2.1 i (by omega)
          by_cases h1 : p i = 1
          · rw [if_pos (by rw [e3, h1]; rfl), if_pos h1]; rfl
          · rw [if_neg (by rw [e3]; intro q; exact h1 ((nI_eq (by omega) (by decide : 1 < 2 ^ 31)).mp q)), if_neg h1]; rfl
        · rw [if_neg (fun q => hij ((nI_eq (by omega) (by omega)).mp q)), if_neg hij]; rfl
      have e4 : iv (sI μ f) (y + 7) (6 * i + j) = nI (wayF p (p 60) (6 * i + j)) := hr _ (by omega)
      have w1 := wayF_le hp (p 60) h6 (6 * i + j) (by omega)
      have w2 := samP_le p i j
      have w3 := hp.2.2.1 v i hv (by omega)
      have w4 : mxo (fun i => min (p (6 + 6 * v + i)) (max (samP p i j) (wayF p (p 60) (6 * i + j)))) i ≤ 2 := mxo_le (fun k hk => by have := hp.2.2.1 v k hv (by omega); show min _ _ ≤ 2; omega)
      rw [e1, e2, e4, orI _ (by omega) (by omega), andI _ (by omega) (by omega), orI _ (by omega) (by omega)]
      exact ih
  exact H 0 (Nat.zero_le _)
theorem m_held (hw : WF12 μ y) (hg : Pg0 f y p) (hp : okP p) (hv : v < 3) (hK : K (some (.int (nI (mxo (fun i => p (6 + 6 * v + i)) (p 60))))) (sI μ f)) : Ct X (Rm (d + 1)) mX12_heldOf [.ref y, .int (nI v)] (sI μ f) K := by
  have h6 := hp.1
  refine Ct_of rfl (Nat.le_of_ble_eq_true rfl) (b_X12_heldOf_0 ?_)
  have nd : e_X12_nodes (sI μ f) y = nI (p 60) := hg 60 (by decide)
  have H : ∀ i, i ≤ p 60 → G X (Rm (d + 1)) mX12_heldOf 4 [(0, .ref y), (1, .int (nI v)), (2, .int (nI (mxo (fun i => p (6 + 6 * v + i)) i))), (3, .int (nI i))] [] (sI μ f) 0 0 K := by
    refine dn (p 60) ?_ ?_
    · refine b_X12_heldOf_4 (hw12_r0 := hw) (hK := fun _ => hK) (hs := ?_) (h := ?_) <;> (intro c; rw [nd] at c; exact absurd (le_r _) c)
    · intro i hi ih
      refine b_X12_heldOf_4 (hw12_r0 := hw) (hK := fun c => absurd c (by rw [nd]; exact ge_c hi (by omega))) (hs := fun _ => by omega) (h := fun _ => ?_)
      have e1 : e_X12_atOf (sI μ f) y v i = nI (p (6 + 6 * v + i)) := hg _ (by omega)
      have w3 := hp.2.2.1 v i hv (by omega)
      have w4 : mxo (fun i => p (6 + 6 * v + i)) i ≤ 2 := mxo_le (fun k hk => hp.2.2.1 v k hv (by omega))
      rw [e1, orI _ (by omega) (by omega)]
      exact ih
  exact H 0 (Nat.zero_le _)
end P22
