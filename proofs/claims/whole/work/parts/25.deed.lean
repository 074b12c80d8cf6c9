def setR (p : Nat → Nat) (v : Nat) (g : Nat → Nat) : Nat → Nat := fun k => if 6 + 6 * v ≤ k ∧ k < 12 + 6 * v then g (k - (6 + 6 * v)) else p k
def dd2r (p : Nat → Nat) (w : Nat) : Nat → Nat := fun j => mxo (fun i => min (p (6 + 6 * w + i)) (p (24 + 6 * i + j))) (p 60)
def dd3 (p : Nat → Nat) (v : Nat) : Nat → Nat := fun k => if 24 ≤ k ∧ k < 60 then min (p k) (2 - p (6 + 6 * v + (k - 24) / 6)) else p k
def dd4 (p : Nat → Nat) (v w : Nat) : Nat → Nat := fun k => if 24 ≤ k ∧ k < 60 then max (min (p k) (2 - p (6 + 6 * v + (k - 24) / 6))) (min (p (6 + 6 * v + (k - 24) / 6)) (p (6 + 6 * w + (k - 24) % 6))) else p k
def app (p : Nat → Nat) (m : Nat) : Nat → Nat := fun k => if k = 60 then p 60 + 1 else if k = p 60 then m else p k
def ddN (p : Nat → Nat) (k v w : Nat) : Nat → Nat :=
  if k = 0 then setR p v (fun _ => 0) else if k = 1 then setR p v (fun i => p (6 + 6 * w + i)) else if k = 2 then setR p v (dd2r p w) else if k = 3 then dd3 p v else if k = 4 then dd4 p v w else app (setR p v (fun i => if i = p 60 then 2 else 0)) 0
def hld (p : Nat → Nat) (v : Nat) : Nat := mxo (fun i => p (6 + 6 * v + i)) (p 60)
def dAn (p : Nat → Nat) (k v w : Nat) : Nat := if k = 2 then hld p w else if k = 3 ∨ k = 4 then hld p v else 2
theorem setR_in {p g : Nat → Nat} {v i : Nat} (hi : i < 6) : setR p v g (6 + 6 * v + i) = g i := by
  unfold setR
  rw [if_pos (by omega), show 6 + 6 * v + i - (6 + 6 * v) = i by omega]
theorem setR_out {p g : Nat → Nat} {v k : Nat} (h : k < 6 + 6 * v ∨ 12 + 6 * v ≤ k) : setR p v g k = p k := if_neg (by omega)
theorem setR_60 {p g : Nat → Nat} {v : Nat} (hv : v < 3) : setR p v g 60 = p 60 := setR_out (by omega)
theorem okP_set {p g : Nat → Nat} {v : Nat} (hp : okP p) (hv : v < 3) (h2 : ∀ i, i < 6 → g i ≤ 2) (h0 : ∀ i, p 60 ≤ i → i < 6 → g i = 0) : okP (setR p v g) := by
  obtain ⟨q1, q2, q3, q4, q5⟩ := hp
  have e60 : setR p v g 60 = p 60 := setR_60 hv
  refine ⟨by rw [e60]; exact q1, fun i hi => by rw [setR_out (by omega)]; exact q2 i hi, fun u i hu hi => ?_, fun i j hi hj => by rw [setR_out (by omega)]; exact q4 i j hi hj, fun i hi hi6 => ?_⟩
  · by_cases huv : u = v
    · subst huv; rw [setR_in hi]; exact h2 i hi
    · rw [setR_out (by omega)]; exact q3 u i hu hi
  · rw [e60] at hi
    obtain ⟨r1, r2, r3⟩ := q5 i hi hi6
    refine ⟨by rw [setR_out (by omega)]; exact r1, fun u hu => ?_, fun j hj => ⟨by rw [setR_out (by omega)]; exact (r3 j hj).1, by rw [setR_out (by omega)]; exact (r3 j hj).2⟩⟩
    by_cases huv : u = v
    · subst huv; rw [setR_in hi6]; exact h0 i hi hi6
    · rw [setR_out (by omega)]; exact r2 u hu
theorem dd2r_le {p : Nat → Nat} (hp : okP p) {w j : Nat} (hw : w < 3) : dd2r p w j ≤ 2 := mxo_le (fun i hi => by have := hp.1; have := hp.2.2.1 w i hw (by omega); show min _ _ ≤ 2; omega)
theorem mxo_0 {g : Nat → Nat} {n : Nat} (h : ∀ i, i < n → g i = 0) : mxo g n = 0 := by
  have := mxo_le (g := g) (c := 0) (n := n) (fun i hi => by rw [h i hi]; exact Nat.le_refl _)
  omega
theorem dd2r_0 {p : Nat → Nat} (hp : okP p) {w j : Nat} (h1 : p 60 ≤ j) (h2 : j < 6) : dd2r p w j = 0 := mxo_0 (fun i hi => by
  have := hp.1
  have := ((hp.2.2.2.2 j h1 h2).2.2 i (by omega)).2
  show min _ (p (24 + 6 * i + j)) = 0
  rw [this]; omega)
theorem hld_le {p : Nat → Nat} (hp : okP p) {v : Nat} (hv : v < 3) : hld p v ≤ 2 := mxo_le (fun i hi => by have := hp.1; exact hp.2.2.1 v i hv (by omega))
theorem dd3_at {p : Nat → Nat} {v i j : Nat} (hi : i < 6) (hj : j < 6) : dd3 p v (24 + 6 * i + j) = min (p (24 + 6 * i + j)) (2 - p (6 + 6 * v + i)) := by
  unfold dd3
  rw [if_pos (by omega), show (24 + 6 * i + j - 24) / 6 = i by omega]
theorem dd4_at {p : Nat → Nat} {v w i j : Nat} (hi : i < 6) (hj : j < 6) : dd4 p v w (24 + 6 * i + j) = max (min (p (24 + 6 * i + j)) (2 - p (6 + 6 * v + i))) (min (p (6 + 6 * v + i)) (p (6 + 6 * w + j))) := by
  unfold dd4
  rw [if_pos (by omega), show (24 + 6 * i + j - 24) / 6 = i by omega, show (24 + 6 * i + j - 24) % 6 = j by omega]
theorem okP_next {p q : Nat → Nat} (hp : okP p) (hq : ∀ k, k < 24 ∨ k = 60 → q k = p k) (h2 : ∀ i j, i < 6 → j < 6 → q (24 + 6 * i + j) ≤ 2) (h0 : ∀ i j, i < 6 → j < 6 → (p 60 ≤ i ∨ p 60 ≤ j) → q (24 + 6 * i + j) = 0) : okP q := by
  obtain ⟨q1, q2, q3, q4, q5⟩ := hp
  have e60 : q 60 = p 60 := hq 60 (by omega)
  refine ⟨by rw [e60]; exact q1, fun i hi => by rw [hq i (by omega)]; exact q2 i hi, fun u i hu hi => by rw [hq _ (by omega)]; exact q3 u i hu hi, h2, fun i hi hi6 => ?_⟩
  rw [e60] at hi
  obtain ⟨r1, r2, r3⟩ := q5 i hi hi6
  exact ⟨by rw [hq i (by omega)]; exact r1, fun u hu => by rw [hq _ (by omega)]; exact r2 u hu, fun j hj => ⟨h0 i j hi6 hj (Or.inl hi), h0 j i hj hi6 (Or.inr hi)⟩⟩
theorem okP_dd3 {p : Nat → Nat} {v : Nat} (hp : okP p) : okP (dd3 p v) := by
  refine okP_next hp (fun k hk => if_neg (by omega)) (fun i j hi hj => ?_) (fun i j hi hj h => ?_)
  · rw [dd3_at hi hj]; have := hp.2.2.2.1 i j hi hj; omega
  · rw [dd3_at hi hj]
    have : p (24 + 6 * i + j) = 0 := by
      rcases h with h | h
      · exact ((hp.2.2.2.2 i h hi).2.2 j hj).1
      · exact ((hp.2.2.2.2 j h hj).2.2 i hi).2
    omega
theorem okP_dd4 {p : Nat → Nat} {v w : Nat} (hp : okP p) (hv : v < 3) (hw : w < 3) : okP (dd4 p v w) := by
  refine okP_next hp (fun k hk => if_neg (by omega)) (fun i j hi hj => ?_) (fun i j hi hj h => ?_)
  · rw [dd4_at hi hj]; have := hp.2.2.2.1 i j hi hj; have := hp.2.2.1 v i hv hi; omega
  · rw [dd4_at hi hj]
    rcases h with h | h
    · have h1 := ((hp.2.2.2.2 i h hi).2.2 j hj).1
      have h2 := (hp.2.2.2.2 i h hi).2.1 v hv
      omega
    · have h1 := ((hp.2.2.2.2 j h hj).2.2 i hi).2
      have h2 := (hp.2.2.2.2 j h hj).2.1 w hw
      omega
theorem app_60 (p : Nat → Nat) (m : Nat) : app p m 60 = p 60 + 1 := if_pos rfl
theorem app_ne {p : Nat → Nat} {m k : Nat} (h : k ≠ 60) (h2 : k ≠ p 60) : app p m k = p k := by unfold app; rw [if_neg h, if_neg h2]
theorem app_n {p : Nat → Nat} {m : Nat} (h : p 60 < 6) : app p m (p 60) = m := by unfold app; rw [if_neg (by omega), if_pos rfl]
theorem okP_app {p : Nat → Nat} {m : Nat} (hp : okP p) (hn : p 60 < 6) (hm : m ≤ 1) : okP (app p m) := by
  obtain ⟨q1, q2, q3, q4, q5⟩ := hp
  refine ⟨by rw [app_60]; omega, fun i hi => ?_, fun u i hu hi => by rw [app_ne (by omega) (by omega)]; exact q3 u i hu hi, fun i j hi hj => by rw [app_ne (by omega) (by omega)]; exact q4 i j hi hj, fun i hi hi6 => ?_⟩
  · by_cases h : i = p 60
    · rw [h, app_n hn]; exact hm
    · rw [app_ne (by omega) h]; exact q2 i hi
  · rw [app_60] at hi
    obtain ⟨r1, r2, r3⟩ := q5 i (by omega) hi6
    exact ⟨by rw [app_ne (by omega) (by omega)]; exact r1, fun u hu => by rw [app_ne (by omega) (by omega)]; exact r2 u hu, fun j hj => ⟨by rw [app_ne (by omega) (by omega)]; exact (r3 j hj).1, by rw [app_ne (by omega) (by omega)]; exact (r3 j hj).2⟩⟩
/-- a new node with a variable at it alone: the new place is not behind the size -/
theorem okP_dd5 {p : Nat → Nat} {v : Nat} (hp : okP p) (hn : p 60 < 6) (hv : v < 3) : okP (app (setR p v (fun i => if i = p 60 then 2 else 0)) 0) := by
  obtain ⟨q1, q2, q3, q4, q5⟩ := hp
  have e60 : setR p v (fun i => if i = p 60 then 2 else 0) 60 = p 60 := setR_60 hv
  have ne : ∀ k, k ≠ 60 → k ≠ p 60 → app (setR p v (fun i => if i = p 60 then 2 else 0)) 0 k = setR p v (fun i => if i = p 60 then 2 else 0) k := fun k h1 h2 => app_ne h1 (by rw [e60]; exact h2)
  have at60 : app (setR p v (fun i => if i = p 60 then 2 else 0)) 0 60 = p 60 + 1 := by rw [app_60, e60]
  have atn : app (setR p v (fun i => if i = p 60 then 2 else 0)) 0 (p 60) = 0 := by
    have := app_n (p := setR p v (fun i => if i = p 60 then 2 else 0)) (m := 0) (by rw [e60]; exact hn)
    rw [e60] at this
    exact this
  refine ⟨by rw [at60]; omega, fun i hi => ?_, fun u i hu hi => ?_, fun i j hi hj => by rw [ne _ (by omega) (by omega), setR_out (by omega)]; exact q4 i j hi hj, fun i hi hi6 => ?_⟩
  · by_cases h : i = p 60
    · rw [h, atn]; omega
    · rw [ne _ (by omega) h, setR_out (by omega)]; exact q2 i hi
  · rw [ne _ (by omega) (by omega)]
    by_cases huv : u = v
    · subst huv; rw [setR_in hi]; split <;> omega
    · rw [setR_out (by omega)]; exact q3 u i hu hi
  · rw [at60] at hi
    obtain ⟨r1, r2, r3⟩ := q5 i (by omega) hi6
    refine ⟨by rw [ne _ (by omega) (by omega), setR_out (by omega)]; exact r1, fun u hu => ?_, fun j hj => ⟨by rw [ne _ (by omega) (by omega), setR_out (by omega)]; exact (r3 j hj).1, by rw [ne _ (by omega) (by omega), setR_out (by omega)]; exact (r3 j hj).2⟩⟩
    rw [ne _ (by omega) (by omega)]
    by_cases huv : u = v
    · subst huv; rw [setR_in hi6, if_neg (by omega)]
    · rw [setR_out (by omega)]; exact r2 u hu
theorem okP_ddN {p : Nat → Nat} {k v w : Nat} (hp : okP p) (hk : k < 6) (hv : v < 3) (hw : (k = 1 ∨ k = 2 ∨ k = 4) → w < 3) (hf : k = 5 → p 60 < 6) : okP (ddN p k v w) := by
  unfold ddN
  split
  · exact okP_set hp hv (fun _ _ => by omega) (fun _ _ _ => rfl)
  split
  · have h3 := hw (by omega)
    exact okP_set hp hv (fun i hi => hp.2.2.1 w i h3 hi) (fun i h1 h2 => (hp.2.2.2.2 i h1 h2).2.1 w h3)
  split
  · have h3 := hw (by omega)
    exact okP_set hp hv (fun i hi => dd2r_le hp h3) (fun i h1 h2 => dd2r_0 hp h1 h2)
  split
  · exact okP_dd3 hp
  split
  · exact okP_dd4 hp hv (hw (by omega))
  · exact okP_dd5 hp (hf (by omega)) hv
theorem dAn_le {p : Nat → Nat} {k v w : Nat} (hp : okP p) (hv : v < 3) (hw : k = 2 → w < 3) : dAn p k v w ≤ 2 := by
  unfold dAn
  split
  · exact hld_le hp (hw (by omega))
  split
  · exact hld_le hp hv
  · omega
section P25
variable {X : cX} {d : Nat} {μ : mM} {K : Option Value → mM → Prop} {f : Nat → Nat → Int32} {a b v w : Nat} {p : Nat → Nat}
/-- a row of at is written -/
theorem Sh_row {g : Nat → Nat → Int32} {q : Nat → Nat} (hs : Sh f a p) (hv : v < 3) (h1 : ∀ z, z ≠ a + 3 + v → a ≤ z → z < a + 13 → ∀ j, g z j = f z j) (h2 : ∀ i, i < 6 → g (a + 3 + v) i = nI (q i)) : Sh g a (setR p v q) := by
  refine ⟨by rw [h1 a (by omega) (by omega) (by omega), setR_60 hv]; exact hs.1, fun i hi => by rw [h1 _ (by omega) (by omega) (by omega), setR_out (by omega)]; exact hs.2.1 i hi, fun u i hu hi => ?_, fun i j hi hj => by rw [h1 _ (by omega) (by omega) (by omega), setR_out (by omega)]; exact hs.2.2.2 i j hi hj⟩
  by_cases huv : u = v
  · subst huv; rw [setR_in hi]; exact h2 i hi
  · rw [h1 _ (by omega) (by omega) (by omega), setR_out (by omega)]; exact hs.2.2.1 u i hu hi
theorem c_follow (hwa : WF5 μ a) (hwb : WF1 μ b) (hab : a + 24 ≤ b ∨ b + 2 ≤ a) (hs : Sh f a p) (hp : okP p) (hv : v < 3) (hw3 : w < 3) (hK : ∀ f', (∀ z, z ≠ b + 1 → z ≠ a + 3 + v → ∀ j, f' z j = f z j) → Sh f' a (setR p v (dd2r p w)) → K none (sI μ f')) : Ct X (Rm (d + 1)) mX1_follow [.ref b, .ref a, .int (nI v), .int (nI w)] (sI μ f) K := by
  have h6 := hp.1
  refine Ct_of rfl (Nat.le_of_ble_eq_true rfl) (b_X1_follow_0 (hw1_r0 := hwb) (hc_fill := ?_))
  refine c_fill (w1_k0 hwb) (by decide) (b_X1_follow_8 ?_)
  have shg : ∀ g, (∀ z, z ≠ b + 1 → ∀ j, g z j = f z j) → Sh g a p := fun g h1 => ⟨by rw [h1 a (by omega)]; exact hs.1, fun i hi => by rw [h1 _ (by omega)]; exact hs.2.1 i hi, fun v i hv hi => by rw [h1 _ (by omega)]; exact hs.2.2.1 v i hv hi, fun i j hi hj => by rw [h1 _ (by omega)]; exact hs.2.2.2 i j hi hj⟩
  have H2 : ∀ i, i < p 60 → ∀ j, j ≤ p 60 → ∀ g, (∀ z, z ≠ b + 1 → ∀ j, g z j = f z j) → (∀ c, c < 6 → g (b + 1) c = nI (mxo (fun i => min (p (6 + 6 * w + i)) (p (24 + 6 * i + c))) (if c < j then i + 1 else i))) → (∀ g', (∀ z, z ≠ b + 1 → ∀ j, g' z j = f z j) → (∀ c, c < 6 → g' (b + 1) c = nI (mxo (fun i => min (p (6 + 6 * w + i)) (p (24 + 6 * i + c))) (if c < p 60 then i + 1 else i))) → G X (Rm (d + 1)) mX1_follow 11 [(0, .ref b), (1, .ref a), (2, .int (nI v)), (3, .int (nI w)), (4, .int (nI (i + 1)))] [] (sI μ g') 0 0 K) → G X (Rm (d + 1)) mX1_follow 23 [(0, .ref b), (1, .ref a), (2, .int (nI v)), (3, .int (nI w)), (4, .int (nI i)), (5, .int (nI j))] [] (sI μ g) 0 0 K := by
    intro i hi
    refine dn (p 60) ?_ ?_
    · intro g h1 h2 hc
      have s1 := (shg g h1).1
      refine b_X1_follow_23 (hw5_r1 := hwa) (hw1_r0 := hwb) (h := fun _ => hc g h1 h2) (hb := ?_) (hb_2 := ?_) (hb_3 := ?_) (h_2 := ?_) <;> (intro c; rw [iv_sI, s1] at c; exact absurd (le_r _) c)
    · intro j hj ih g h1 h2 hc
      have sg := shg g h1
      have a1 := hp.2.2.1 w i hw3 (by omega)
      have a2 := hp.2.2.2.1 i j (by omega) (by omega)
      have a3 : mxo (fun i => min (p (6 + 6 * w + i)) (p (24 + 6 * i + j))) i ≤ 2 := mxo_le (fun k hk => by have := hp.2.2.1 w k hw3 (by omega); show min _ _ ≤ 2; omega)
      have r1 : g (b + 1) j = nI (mxo (fun i => min (p (6 + 6 * w + i)) (p (24 + 6 * i + j))) i) := by rw [h2 j (by omega), if_neg (by omega)]
      refine b_X1_follow_23 (hw5_r1 := hwa) (hw1_r0 := hwb) (h := fun c => absurd c (by rw [iv_sI, sg.1]; exact ge_c hj (by omega))) (hb := fun _ => by omega) (hb_2 := fun _ => hw3) (hb_3 := fun _ => by omega) (h_2 := fun _ => ?_)
      rw [iv_sI, iv_sI, iv_sI, sg.2.2.1 w i hw3 (by omega), sg.2.2.2 i j (by omega) (by omega), r1, mnI (by omega) (by omega), mxI (by omega) (by omega), wi_sI]
      refine ih _ (fun z hz k => by rw [u2_x hz]; exact h1 z hz k) (fun c hc6 => ?_) hc
      by_cases hcj : c = j
      · subst hcj
        rw [u2_s, if_pos (by omega)]
        rfl
      · rw [u2_k hcj, h2 c hc6]
        by_cases hlt : c < j
        · rw [if_pos hlt, if_pos (by omega)]
        · rw [if_neg hlt, if_neg (by omega)]
  have H1 : ∀ i, i ≤ p 60 → ∀ g, (∀ z, z ≠ b + 1 → ∀ j, g z j = f z j) → (∀ c, c < 6 → g (b + 1) c = nI (if c < p 60 then mxo (fun i => min (p (6 + 6 * w + i)) (p (24 + 6 * i + c))) i else 0)) → G X (Rm (d + 1)) mX1_follow 11 [(0, .ref b), (1, .ref a), (2, .int (nI v)), (3, .int (nI w)), (4, .int (nI i))] [] (sI μ g) 0 0 K := by
    refine dn (p 60) ?_ ?_
    · intro g h1 h2
      have sg := shg g h1
      refine b_X1_follow_11 (hw5_r1 := hwa) (hw1_r0 := hwb) (hb := fun _ => hv) (hK := fun _ => ?_) (h := fun c => ?_)
      · rw [cpI_sI]
        refine hK _ (fun z hz1 hz2 j => by rw [cp2_x hz2]; exact h1 z hz1 j) (Sh_row sg hv (fun z hz _ _ j => cp2_x hz) (fun i hi => ?_))
        rw [cp2_row hi, h2 i hi]
        by_cases hlt : i < p 60
        · rw [if_pos hlt]; rfl
        · rw [if_neg hlt, dd2r_0 hp (by omega) hi]
      · rw [iv_sI, sg.1] at c; exact absurd (le_r _) c
    · intro i hi ih g h1 h2
      have sg := shg g h1
      refine b_X1_follow_11 (hw5_r1 := hwa) (hw1_r0 := hwb) (hb := fun _ => hv) (hK := fun c => absurd c (by rw [iv_sI, sg.1]; exact ge_c hi (by omega))) (h := fun _ => ?_)
      refine H2 i hi 0 (Nat.zero_le _) g h1 (fun c hc => ?_) (fun g' h3 h4 => ih g' h3 (fun c hc => ?_))
      · rw [h2 c hc, if_neg (Nat.not_lt_zero _)]
        by_cases hlt : c < p 60
        · rw [if_pos hlt]
        · rw [if_neg hlt, mxo_0 (fun k hk => by have := ((hp.2.2.2.2 c (by omega) hc).2.2 k (by omega)).2; show min _ (p (24 + 6 * k + c)) = 0; rw [this]; omega)]
      · rw [h4 c hc]
        by_cases hlt : c < p 60
        · rw [if_pos hlt, if_pos hlt]
        · rw [if_neg hlt, if_neg hlt, mxo_0 (fun k hk => by have := ((hp.2.2.2.2 c (by omega) hc).2.2 k (by omega)).2; show min _ (p (24 + 6 * k + c)) = 0; rw [this]; omega)]
  exact H1 0 (Nat.zero_le _) _ (fun z hz j => flI_x hz) (fun c hc => by rw [flI_s hc]; split <;> rfl)
end P25
