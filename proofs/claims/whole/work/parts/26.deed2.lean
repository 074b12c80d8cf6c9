section P26
variable {X : cX} {d : Nat} {μ : mM} {K : Option Value → mM → Prop} {f : Nat → Nat → Int32} {a b v w : Nat} {p : Nat → Nat}
/-- the rows of next are written -/
theorem Sh_next {g : Nat → Nat → Int32} {q : Nat → Nat} (hs : Sh f a p) (hq : ∀ k, k < 24 ∨ k = 60 → q k = p k) (h1 : ∀ z, (z < a + 7 ∨ a + 13 ≤ z) → ∀ j, g z j = f z j) (h2 : ∀ i j, i < 6 → j < 6 → g (a + 7 + i) j = nI (q (24 + 6 * i + j))) : Sh g a q :=
  ⟨by rw [h1 a (by omega), hq 60 (by omega)]; exact hs.1, fun i hi => by rw [h1 _ (by omega), hq i (by omega)]; exact hs.2.1 i hi, fun u i hu hi => by rw [h1 _ (by omega), hq _ (by omega)]; exact hs.2.2.1 u i hu hi, h2⟩
theorem sub2 {m : Nat} (h : m ≤ 2) : (2 : Int32) - nI m = nI (2 - m) := by
  rcases (by omega : m = 0 ∨ m = 1 ∨ m = 2) with rfl | rfl | rfl <;> decide
theorem zero_out (hp : okP p) {i j : Nat} (hi : i < 6) (hj : j < 6) (h : p 60 ≤ i ∨ p 60 ≤ j) : p (24 + 6 * i + j) = 0 := by
  rcases h with h | h
  · exact ((hp.2.2.2.2 i h hi).2.2 j hj).1
  · exact ((hp.2.2.2.2 j h hj).2.2 i hi).2
theorem c_cut (hwa : WF5 μ a) (hs : Sh f a p) (hp : okP p) (hv : v < 3) (hK : ∀ f', (∀ z, (z < a + 7 ∨ a + 13 ≤ z) → ∀ j, f' z j = f z j) → Sh f' a (dd3 p v) → K none (sI μ f')) : Ct X (Rm (d + 1)) mX1_cut [.ref a, .int (nI v)] (sI μ f) K := by
  have h6 := hp.1
  refine Ct_of rfl (Nat.le_of_ble_eq_true rfl) (b_X1_cut_0 ?_)
  have lo : ∀ g : Nat → Nat → Int32, (∀ z, (z < a + 7 ∨ a + 13 ≤ z) → ∀ j, g z j = f z j) → g a 0 = nI (p 60) ∧ ∀ i, i < 6 → g (a + 3 + v) i = nI (p (6 + 6 * v + i)) := fun g h1 => ⟨by rw [h1 a (by omega)]; exact hs.1, fun i hi => by rw [h1 _ (by omega)]; exact hs.2.2.1 v i hv hi⟩
  have H2 : ∀ i, i < p 60 → ∀ j, j ≤ p 60 → ∀ g : Nat → Nat → Int32, (∀ z, (z < a + 7 ∨ a + 13 ≤ z) → ∀ j, g z j = f z j) → (∀ r c, r < 6 → c < 6 → g (a + 7 + r) c = nI (if (r < i ∨ (r = i ∧ c < j)) ∧ c < p 60 then dd3 p v (24 + 6 * r + c) else p (24 + 6 * r + c))) → (∀ g' : Nat → Nat → Int32, (∀ z, (z < a + 7 ∨ a + 13 ≤ z) → ∀ j, g' z j = f z j) → (∀ r c, r < 6 → c < 6 → g' (a + 7 + r) c = nI (if r < i + 1 ∧ c < p 60 then dd3 p v (24 + 6 * r + c) else p (24 + 6 * r + c))) → G X (Rm (d + 1)) mX1_cut 2 [(0, .ref a), (1, .int (nI v)), (2, .int (nI (i + 1)))] [] (sI μ g') 0 0 K) → G X (Rm (d + 1)) mX1_cut 24 [(0, .ref a), (1, .int (nI v)), (2, .int (nI i)), (3, .int (nI (2 - p (6 + 6 * v + i)))), (4, .int (nI j))] [] (sI μ g) 0 0 K := by
    intro i hi
    refine dn (p 60) ?_ ?_
    · intro g h1 h2 hc
      have s1 := (lo g h1).1
      refine b_X1_cut_24 (hw5_r0 := hwa) (h := fun _ => hc g h1 (fun r c hr hc => ?_)) (hb := ?_) (hb_2 := ?_) (h_2 := ?_)
      · rw [h2 r c hr hc]
        by_cases hq : r < i + 1 ∧ c < p 60
        · rw [if_pos (by omega), if_pos hq]
        · rw [if_neg (by omega), if_neg hq]
      all_goals (intro c; rw [iv_sI, s1] at c; exact absurd (le_r _) c)
    · intro j hj ih g h1 h2 hc
      have s1 := (lo g h1).1
      have a1 := hp.2.2.2.1 i j (by omega) (by omega)
      have r1 : g (a + 7 + i) j = nI (p (24 + 6 * i + j)) := by rw [h2 i j (by omega) (by omega), if_neg (by omega)]
      refine b_X1_cut_24 (hw5_r0 := hwa) (h := fun c => absurd c (by rw [iv_sI, s1]; exact ge_c hj (by omega))) (hb := fun _ => by omega) (hb_2 := fun _ => by omega) (h_2 := fun _ => ?_)
      rw [iv_sI, r1, mnI (by omega) (by omega), wi_sI]
      refine ih _ (fun z hz k => by rw [u2_x (by omega)]; exact h1 z hz k) (fun r c hr hc6 => ?_) hc
      by_cases hrc : r = i ∧ c = j
      · rw [hrc.1, hrc.2, u2_s, if_pos (by omega), dd3_at (by omega) (by omega)]
      · have e : u2 g (a + 7 + i) j (nI (min (p (24 + 6 * i + j)) (2 - p (6 + 6 * v + i)))) (a + 7 + r) c = g (a + 7 + r) c := by
          by_cases hr2 : r = i
          · exact u2_k (by omega)
          · exact u2_x (by omega)
        rw [e, h2 r c hr hc6]
        by_cases hlt : (r < i ∨ (r = i ∧ c < j)) ∧ c < p 60
        · rw [if_pos hlt, if_pos (by omega)]
        · rw [if_neg hlt, if_neg (by omega)]
  have H1 : ∀ i, i ≤ p 60 → ∀ g : Nat → Nat → Int32, (∀ z, (z < a + 7 ∨ a + 13 ≤ z) → ∀ j, g z j = f z j) → (∀ r c, r < 6 → c < 6 → g (a + 7 + r) c = nI (if r < i ∧ c < p 60 then dd3 p v (24 + 6 * r + c) else p (24 + 6 * r + c))) → G X (Rm (d + 1)) mX1_cut 2 [(0, .ref a), (1, .int (nI v)), (2, .int (nI i))] [] (sI μ g) 0 0 K := by
    refine dn (p 60) ?_ ?_
    · intro g h1 h2
      have s1 := (lo g h1).1
      refine b_X1_cut_2 (hw5_r0 := hwa) (hK := fun _ => hK g h1 (Sh_next hs (fun k hk => if_neg (by omega)) h1 (fun i j hi hj => ?_))) (hb := ?_) (hb_2 := ?_) (h := ?_)
      · rw [h2 i j hi hj]
        by_cases hq : i < p 60 ∧ j < p 60
        · rw [if_pos hq]
        · rw [if_neg hq, dd3_at hi hj, zero_out hp hi hj (by omega)]; simp
      all_goals (intro c; rw [iv_sI, s1] at c; exact absurd (le_r _) c)
    · intro i hi ih g h1 h2
      have s1 := lo g h1
      have a1 := hp.2.2.1 v i hv (by omega)
      refine b_X1_cut_2 (hw5_r0 := hwa) (hK := fun c => absurd c (by rw [iv_sI, s1.1]; exact ge_c hi (by omega))) (hb := fun _ => hv) (hb_2 := fun _ => by omega) (h := fun _ => ?_)
      rw [iv_sI, s1.2 i (by omega), sub2 a1]
      refine H2 i hi 0 (Nat.zero_le _) g h1 (fun r c hr hc => ?_) ih
      rw [h2 r c hr hc]
      by_cases hq : r < i ∧ c < p 60
      · rw [if_pos hq, if_pos (by omega)]
      · rw [if_neg hq, if_neg (by omega)]
  exact H1 0 (Nat.zero_le _) f (fun _ _ _ => rfl) (fun r c hr hc => by rw [if_neg (by omega)]; exact hs.2.2.2 r c hr hc)
/-- what is led to comes to q, whose at are those of p -/
def lnk (p q : Nat → Nat) (v w : Nat) : Nat → Nat := fun k => if 24 ≤ k ∧ k < 60 then max (q k) (min (p (6 + 6 * v + (k - 24) / 6)) (p (6 + 6 * w + (k - 24) % 6))) else q k
theorem lnk_at {q : Nat → Nat} {i j : Nat} (hi : i < 6) (hj : j < 6) : lnk p q v w (24 + 6 * i + j) = max (q (24 + 6 * i + j)) (min (p (6 + 6 * v + i)) (p (6 + 6 * w + j))) := by
  unfold lnk
  rw [if_pos (by omega), show (24 + 6 * i + j - 24) / 6 = i by omega, show (24 + 6 * i + j - 24) % 6 = j by omega]
theorem c_link (hwa : WF5 μ a) (hs : Sh f a p) (hp : okP p) (hv : v < 3) (hw : w < 3) (hK : ∀ f', (∀ z, (z < a + 7 ∨ a + 13 ≤ z) → ∀ j, f' z j = f z j) → Sh f' a (lnk p p v w) → K none (sI μ f')) : Ct X (Rm (d + 1)) mX1_link [.ref a, .int (nI v), .int (nI w)] (sI μ f) K := by
  have h6 := hp.1
  refine Ct_of rfl (Nat.le_of_ble_eq_true rfl) (b_X1_link_0 ?_)
  have lo : ∀ g : Nat → Nat → Int32, (∀ z, (z < a + 7 ∨ a + 13 ≤ z) → ∀ j, g z j = f z j) → g a 0 = nI (p 60) ∧ ∀ u i, u < 3 → i < 6 → g (a + 3 + u) i = nI (p (6 + 6 * u + i)) := fun g h1 => ⟨by rw [h1 a (by omega)]; exact hs.1, fun u i hu hi => by rw [h1 _ (by omega)]; exact hs.2.2.1 u i hu hi⟩
  have H2 : ∀ i, i < p 60 → ∀ j, j ≤ p 60 → ∀ g : Nat → Nat → Int32, (∀ z, (z < a + 7 ∨ a + 13 ≤ z) → ∀ j, g z j = f z j) → (∀ r c, r < 6 → c < 6 → g (a + 7 + r) c = nI (if (r < i ∨ (r = i ∧ c < j)) ∧ c < p 60 then lnk p p v w (24 + 6 * r + c) else p (24 + 6 * r + c))) → (∀ g' : Nat → Nat → Int32, (∀ z, (z < a + 7 ∨ a + 13 ≤ z) → ∀ j, g' z j = f z j) → (∀ r c, r < 6 → c < 6 → g' (a + 7 + r) c = nI (if r < i + 1 ∧ c < p 60 then lnk p p v w (24 + 6 * r + c) else p (24 + 6 * r + c))) → G X (Rm (d + 1)) mX1_link 2 [(0, .ref a), (1, .int (nI v)), (2, .int (nI w)), (3, .int (nI (i + 1)))] [] (sI μ g') 0 0 K) → G X (Rm (d + 1)) mX1_link 13 [(0, .ref a), (1, .int (nI v)), (2, .int (nI w)), (3, .int (nI i)), (4, .int (nI j))] [] (sI μ g) 0 0 K := by
    intro i hi
    refine dn (p 60) ?_ ?_
    · intro g h1 h2 hc
      have s1 := (lo g h1).1
      refine b_X1_link_13 (hw5_r0 := hwa) (h := fun _ => hc g h1 (fun r c hr hc => ?_)) (hb := ?_) (hb_2 := ?_) (hb_3 := ?_) (hb_4 := ?_) (h_2 := ?_)
      · rw [h2 r c hr hc]
        by_cases hq : r < i + 1 ∧ c < p 60
        · rw [if_pos (by omega), if_pos hq]
        · rw [if_neg (by omega), if_neg hq]
      all_goals (intro c; rw [iv_sI, s1] at c; exact absurd (le_r _) c)
    · intro j hj ih g h1 h2 hc
      have s1 := lo g h1
      have a1 := hp.2.2.2.1 i j (by omega) (by omega)
      have a2 := hp.2.2.1 v i hv (by omega)
      have a3 := hp.2.2.1 w j hw (by omega)
      have r1 : g (a + 7 + i) j = nI (p (24 + 6 * i + j)) := by rw [h2 i j (by omega) (by omega), if_neg (by omega)]
      refine b_X1_link_13 (hw5_r0 := hwa) (h := fun c => absurd c (by rw [iv_sI, s1.1]; exact ge_c hj (by omega))) (hb := fun _ => hv) (hb_2 := fun _ => by omega) (hb_3 := fun _ => hw) (hb_4 := fun _ => by omega) (h_2 := fun _ => ?_)
      rw [iv_sI, iv_sI, iv_sI, r1, s1.2 v i hv (by omega), s1.2 w j hw (by omega), mnI (by omega) (by omega), mxI (by omega) (by omega), wi_sI]
      refine ih _ (fun z hz k => by rw [u2_x (by omega)]; exact h1 z hz k) (fun r c hr hc6 => ?_) hc
      by_cases hrc : r = i ∧ c = j
      · rw [hrc.1, hrc.2, u2_s, if_pos (by omega), lnk_at (by omega) (by omega)]
      · have e : u2 g (a + 7 + i) j (nI (max (p (24 + 6 * i + j)) (min (p (6 + 6 * v + i)) (p (6 + 6 * w + j))))) (a + 7 + r) c = g (a + 7 + r) c := by
          by_cases hr2 : r = i
          · exact u2_k (by omega)
          · exact u2_x (by omega)
        rw [e, h2 r c hr hc6]
        by_cases hlt : (r < i ∨ (r = i ∧ c < j)) ∧ c < p 60
        · rw [if_pos hlt, if_pos (by omega)]
        · rw [if_neg hlt, if_neg (by omega)]
  have H1 : ∀ i, i ≤ p 60 → ∀ g : Nat → Nat → Int32, (∀ z, (z < a + 7 ∨ a + 13 ≤ z) → ∀ j, g z j = f z j) → (∀ r c, r < 6 → c < 6 → g (a + 7 + r) c = nI (if r < i ∧ c < p 60 then lnk p p v w (24 + 6 * r + c) else p (24 + 6 * r + c))) → G X (Rm (d + 1)) mX1_link 2 [(0, .ref a), (1, .int (nI v)), (2, .int (nI w)), (3, .int (nI i))] [] (sI μ g) 0 0 K := by
    refine dn (p 60) ?_ ?_
    · intro g h1 h2
      have s1 := (lo g h1).1
      refine b_X1_link_2 (hw5_r0 := hwa) (hK := fun _ => hK g h1 (Sh_next hs (fun k hk => if_neg (by omega)) h1 (fun i j hi hj => ?_))) (h := ?_)
      · rw [h2 i j hi hj]
        by_cases hq : i < p 60 ∧ j < p 60
        · rw [if_pos hq]
        · rw [if_neg hq, lnk_at hi hj, zero_out hp hi hj (by omega)]
          by_cases hi2 : p 60 ≤ i
          · rw [(hp.2.2.2.2 i hi2 hi).2.1 v hv]; simp
          · rw [(hp.2.2.2.2 j (by omega) hj).2.1 w hw]; simp
      · intro c; rw [iv_sI, s1] at c; exact absurd (le_r _) c
    · intro i hi ih g h1 h2
      have s1 := lo g h1
      refine b_X1_link_2 (hw5_r0 := hwa) (hK := fun c => absurd c (by rw [iv_sI, s1.1]; exact ge_c hi (by omega))) (h := fun _ => ?_)
      refine H2 i hi 0 (Nat.zero_le _) g h1 (fun r c hr hc => ?_) ih
      rw [h2 r c hr hc]
      by_cases hq : r < i ∧ c < p 60
      · rw [if_pos hq, if_pos (by omega)]
      · rw [if_neg hq, if_neg (by omega)]
  exact H1 0 (Nat.zero_le _) f (fun _ _ _ => rfl) (fun r c hr hc => by rw [if_neg (by omega)]; exact hs.2.2.2 r c hr hc)
theorem c_answer {k : Nat} (hwa : WF5 μ a) (hs : Sh f a p) (hp : okP p) (hk : k < 6) (hv : v < 3) (hw : k = 2 → w < 3) (hK : K (some (.int (nI (dAn p k v w)))) (sI μ f)) : Ct X (Rm (d + 2)) mX1_answerAhead [.ref a, .int (nI k), .int (nI v), .int (nI w)] (sI μ f) K := by
  refine Ct_of rfl (Nat.le_of_ble_eq_true rfl) ?_
  have T : (k = 3 ∨ k = 4) → G X (Rm (d + 2)) mX1_answerAhead 21 [(0, .ref a), (2, .int (nI v))] [] (sI μ f) 0 0 K := fun h => by
    refine b_X1_answerAhead_21 (hw5_r0 := hwa) (hc_holding := c_holding hwa hs hp hv (b_X1_answerAhead_26 ?_))
    unfold dAn at hK
    rw [if_neg (by omega), if_pos h] at hK
    exact hK
  refine b_X1_answerAhead_0 (hw5_r0 := hwa) (h := fun _ c => T (Or.inl ((nI_eq (b := 3) (by omega) (by decide)).mp c))) (hK := fun c1 c2 c3 => ?_) (h_2 := fun _ _ c => T (Or.inr ((nI_eq (b := 4) (by omega) (by decide)).mp c))) (hc_holding := fun c => ?_)
  · unfold dAn at hK
    rw [if_neg (fun q => c1 (by rw [q]; rfl)), if_neg (fun q => q.elim (fun q => c2 (by rw [q]; rfl)) (fun q => c3 (by rw [q]; rfl)))] at hK
    exact hK
  · have c2 : k = 2 := (nI_eq (b := 2) (by omega) (by decide)).mp c
    unfold dAn at hK
    rw [if_pos c2] at hK
    exact c_holding hwa hs hp (hw c2) (b_X1_answerAhead_10 hK)
end P26
