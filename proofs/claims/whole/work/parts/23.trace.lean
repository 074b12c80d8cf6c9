section P23
variable {X : cX} {d : Nat} {μ : mM} {K : Option Value → mM → Prop} {f : Nat → Nat → Int32} {a v : Nat} {p : Nat → Nat}
theorem smI (hs : Sh f a p) (hp : okP p) {i j : Nat} (hi : i < 6) (hj : j < 6) : e_X5_sameness (sI μ f) a i (nI j) = nI (samP p i j) := by
  unfold e_X5_sameness samP
  by_cases hij : i = j
  · subst hij
    rw [if_pos rfl, if_pos rfl]
    have e3 : iv (sI μ f) (a + 1) i = nI (p i) := hs.2.1 i hi
    have hm := hp.2.1 i hi
    by_cases h1 : p i = 1
    · rw [if_neg (by rw [e3, h1]; decide), if_pos h1]; rfl
    · rw [if_pos (by rw [e3, show p i = 0 by omega]; rfl), if_neg h1]; rfl
  · rw [if_neg (fun q => hij ((nI_eq (by omega) (by omega)).mp q)), if_neg hij]; rfl
theorem c_reaching {j : Nat} (hw : WF5 μ a) (hs : Sh f a p) (hp : okP p) (hv : v < 3) (hj : j < p 60) (hwy : ∀ i j, i < p 60 → j < p 60 → f (a + 14 + i) j = nI (wayF p (p 60) (6 * i + j))) (hK : K (some (.int (nI (rchP p v j)))) (sI μ f)) : Ct X (Rm (d + 1)) mX5_reaching [.ref a, .int (nI v), .int (nI j)] (sI μ f) K := by
  have h6 := hp.1
  refine Ct_of rfl (Nat.le_of_ble_eq_true rfl) (b_X5_reaching_0 ?_)
  have H : ∀ i, i ≤ p 60 → G X (Rm (d + 1)) mX5_reaching 5 [(0, .ref a), (1, .int (nI v)), (2, .int (nI j)), (3, .int (nI (mxo (fun i => min (p (6 + 6 * v + i)) (max (samP p i j) (wayF p (p 60) (6 * i + j)))) i))), (4, .int (nI i))] [] (sI μ f) 0 0 K := by
    refine dn (p 60) ?_ ?_
    · refine b_X5_reaching_5 (hw5_r0 := hw) (hK := fun _ => hK) (hs := ?_) (hb := ?_) (hb_2 := ?_) (hb_3 := ?_) (h := ?_) <;> (intro c; rw [iv_sI, hs.1] at c; exact absurd (le_r _) c)
    · intro i hi ih
      refine b_X5_reaching_5 (hw5_r0 := hw) (hK := fun c => absurd c (by rw [iv_sI, hs.1]; exact ge_c hi (by omega))) (hs := fun _ _ => by omega) (hb := fun _ => by omega) (hb_2 := fun _ => by omega) (hb_3 := fun _ => hv) (h := fun _ => ?_)
      have w1 := wayF_le hp (p 60) h6 (6 * i + j) (by omega)
      have w2 := samP_le p i j
      have w3 := hp.2.2.1 v i hv (by omega)
      have w4 : mxo (fun i => min (p (6 + 6 * v + i)) (max (samP p i j) (wayF p (p 60) (6 * i + j)))) i ≤ 2 := mxo_le (fun k hk => by have := hp.2.2.1 v k hv (by omega); show min _ _ ≤ 2; omega)
      have e4 : iv (sI μ f) (a + 14 + i) j = nI (wayF p (p 60) (6 * i + j)) := hwy i j hi hj
      have e1 : iv (sI μ f) (a + 3 + v) i = nI (p (6 + 6 * v + i)) := hs.2.2.1 v i hv (by omega)
      rw [smI hs hp (by omega) (by omega), e4, e1, mxI (by omega) (by omega), mnI (by omega) (by omega), mxI (by omega) (by omega)]
      exact ih
  exact H 0 (Nat.zero_le _)
theorem c_trace (hw : WF5 μ a) (hs : Sh f a p) (hp : okP p) (hK : ∀ f', Fr f f' (a + 14) 10 → (∀ i j, i < p 60 → j < p 60 → f' (a + 14 + i) j = nI (wayF p (p 60) (6 * i + j))) → (∀ v j, v < 3 → j < p 60 → f' (a + 21 + v) j = nI (rchP p v j)) → K none (sI μ f')) : Ct X (Rm (d + 2)) mX5_trace [.ref a] (sI μ f) K := by
  have h6 := hp.1
  have shp : ∀ g, Fr f g (a + 14) 10 → Sh g a p := fun g h1 => ⟨by rw [h1 a (by omega)]; exact hs.1, fun i hi => by rw [h1 (a + 1) (by omega)]; exact hs.2.1 i hi, fun v i hv hi => by rw [h1 (a + 3 + v) (by omega)]; exact hs.2.2.1 v i hv hi, fun i j hi hj => by rw [h1 (a + 7 + i) (by omega)]; exact hs.2.2.2 i j hi hj⟩
  refine Ct_of rfl (Nat.le_of_ble_eq_true rfl) (b_X5_trace_0 ?_)
  have sz0 : ∀ g, Fr f g (a + 14) 10 → iv (sI μ g) a 0 = nI (p 60) := fun g h1 => (shp g h1).1
  -- the reaches
  have H6 : ∀ v, v < 3 → ∀ j, j ≤ p 60 → ∀ g, Fr f g (a + 14) 10 → (∀ i j, i < p 60 → j < p 60 → g (a + 14 + i) j = nI (wayF p (p 60) (6 * i + j))) → (∀ u j, u < v → j < p 60 → g (a + 21 + u) j = nI (rchP p u j)) → (∀ c, c < j → g (a + 21 + v) c = nI (rchP p v c)) → (∀ g', Fr f g' (a + 14) 10 → (∀ i j, i < p 60 → j < p 60 → g' (a + 14 + i) j = nI (wayF p (p 60) (6 * i + j))) → (∀ u j, u < v + 1 → j < p 60 → g' (a + 21 + u) j = nI (rchP p u j)) → G X (Rm (d + 2)) mX5_trace 123 [(0, .ref a), (1, .int (nI (v + 1)))] [] (sI μ g') 0 0 K) → G X (Rm (d + 2)) mX5_trace 130 [(0, .ref a), (1, .int (nI v)), (2, .int (nI j))] [] (sI μ g) 0 0 K := by
    intro v hv
    refine dn (p 60) ?_ ?_
    · intro g h1 h2 h3 h4 hc
      refine b_X5_trace_130 (hw5_r0 := hw) (h := fun _ => hc g h1 h2 (fun u j hu hj => ?_)) (hb := ?_) (hc_reaching := ?_)
      · by_cases huv : u = v
        · subst huv; exact h4 j hj
        · exact h3 u j (by omega) hj
      · intro c; exact absurd (by rw [sz0 g h1]; exact le_r _) c
      · intro c; exact absurd (by rw [sz0 g h1]; exact le_r _) c
    · intro j hj ih g h1 h2 h3 h4 hc
      refine b_X5_trace_130 (hw5_r0 := hw) (h := fun c => absurd c (by rw [sz0 g h1]; exact ge_c hj (by omega))) (hb := fun _ => hv) (hc_reaching := fun _ => ?_)
      refine c_reaching hw (shp g h1) hp hv hj h2 ?_
      refine b_X5_trace_151 (n0 := 6) (j0 := j) (hk_q0 := w5_q5 hw v hv) (hi_j0 := rfl) (hb := by omega) (h := ?_)
      rw [wi_sI]
      refine ih _ (Fr_u2 h1 (by omega) (by omega)) (fun i c hi hc => by rw [u2_x (by omega)]; exact h2 i c hi hc) (fun u c hu hc => by rw [u2_x (by omega)]; exact h3 u c hu hc) (fun c hc => ?_) hc
      by_cases hcj : c = j
      · subst hcj; rw [u2_s]
      · rw [u2_k hcj]; exact h4 c (by omega)
  have H5 : ∀ v, v ≤ 3 → ∀ g, Fr f g (a + 14) 10 → (∀ i j, i < p 60 → j < p 60 → g (a + 14 + i) j = nI (wayF p (p 60) (6 * i + j))) → (∀ u j, u < v → j < p 60 → g (a + 21 + u) j = nI (rchP p u j)) → G X (Rm (d + 2)) mX5_trace 123 [(0, .ref a), (1, .int (nI v))] [] (sI μ g) 0 0 K := by
    refine dn 3 ?_ ?_
    · intro g h1 h2 h3
      exact b_X5_trace_123 (hK := fun _ => hK g h1 h2 h3) (h := fun c => absurd (le_r _) c)
    · intro v hv ih g h1 h2 h3
      exact b_X5_trace_123 (hK := fun c => absurd c (ge_c (n := 3) hv (by decide))) (h := fun _ => H6 v hv 0 (Nat.zero_le _) g h1 h2 h3 (fun c hc => absurd hc (Nat.not_lt_zero _)) ih)
  -- the ways
  have H4 : ∀ m, m < p 60 → ∀ i, i < p 60 → ∀ j, j ≤ p 60 → ∀ g, Fr f g (a + 14) 10 → (∀ r c, r < p 60 → c < p 60 → g (a + 14 + r) c = nI (if r < i ∨ (r = i ∧ c < j) then fst1 m (wayF p m) (6 * r + c) else wayF p m (6 * r + c))) → (∀ g', Fr f g' (a + 14) 10 → (∀ r c, r < p 60 → c < p 60 → g' (a + 14 + r) c = nI (if r < i + 1 then fst1 m (wayF p m) (6 * r + c) else wayF p m (6 * r + c))) → G X (Rm (d + 2)) mX5_trace 47 [(0, .ref a), (1, .int (nI m)), (2, .int (nI (i + 1)))] [] (sI μ g') 0 0 K) → G X (Rm (d + 2)) mX5_trace 57 [(0, .ref a), (1, .int (nI m)), (2, .int (nI i)), (3, .int (nI j))] [] (sI μ g) 0 0 K := by
    intro m hm i hi
    refine dn (p 60) ?_ ?_
    · intro g h1 h2 hc
      refine b_X5_trace_57 (hw5_r0 := hw) (h := fun _ => hc g h1 (fun r c hr hc => ?_)) (hb := ?_) (hb_2 := ?_) (hb_3 := ?_) (h_2 := ?_)
      · rw [h2 r c hr hc]
        by_cases hri : r < i + 1
        · rw [if_pos (by omega), if_pos hri]
        · rw [if_neg (by omega), if_neg hri]
      all_goals (intro c; exact absurd (by rw [sz0 g h1]; exact le_r _) c)
    · intro j hj ih g h1 h2 hc
      have w1 := wayF_le hp m (by omega) (6 * i + j) (by omega)
      have w2 := wayF_le hp m (by omega) (6 * i + m) (by omega)
      have w3 := wayF_le hp m (by omega) (6 * m + j) (by omega)
      have r0 : g (a + 14 + i) j = nI (wayF p m (6 * i + j)) := by rw [h2 i j hi hj, if_neg (by omega)]
      have r1 : g (a + 14 + i) m = nI (wayF p m (6 * i + m)) := by
        rw [h2 i m hi hm, fst1_row (by omega)]
        split <;> rfl
      have r2 : g (a + 14 + m) j = nI (wayF p m (6 * m + j)) := by
        rw [h2 m j hm hj, fst1_col _ (by omega)]
        split <;> rfl
      refine b_X5_trace_57 (hw5_r0 := hw) (h := fun c => absurd c (by rw [sz0 g h1]; exact ge_c hj (by omega))) (hb := fun _ => by omega) (hb_2 := fun _ => by omega) (hb_3 := fun _ => by omega) (h_2 := fun _ => ?_)
      rw [iv_sI, iv_sI, iv_sI, r0, r1, r2, mnI (by omega) (by omega), mxI (by omega) (by omega), wi_sI]
      refine ih _ (Fr_u2 h1 (by omega) (by omega)) (fun r c hr hc => ?_) hc
      by_cases hrc : r = i ∧ c = j
      · rw [hrc.1, hrc.2, u2_s, if_pos (by omega)]
        show _ = nI (max (wayF p m (6 * i + j)) (min (wayF p m ((6 * i + j) / 6 * 6 + m)) (wayF p m (6 * m + (6 * i + j) % 6))))
        rw [show (6 * i + j) / 6 * 6 + m = 6 * i + m by omega, show 6 * m + (6 * i + j) % 6 = 6 * m + j by omega]
      · have e : u2 g (a + 14 + i) j (nI (max (wayF p m (6 * i + j)) (min (wayF p m (6 * i + m)) (wayF p m (6 * m + j))))) (a + 14 + r) c = g (a + 14 + r) c := by
          by_cases hr2 : r = i
          · exact u2_k (by omega)
          · exact u2_x (by omega)
        rw [e, h2 r c hr hc]
        by_cases hlt : r < i ∨ (r = i ∧ c < j)
        · rw [if_pos hlt, if_pos (by omega)]
        · rw [if_neg hlt, if_neg (by omega)]
  have H3 : ∀ m, m < p 60 → ∀ i, i ≤ p 60 → ∀ g, Fr f g (a + 14) 10 → (∀ r c, r < p 60 → c < p 60 → g (a + 14 + r) c = nI (if r < i then fst1 m (wayF p m) (6 * r + c) else wayF p m (6 * r + c))) → (∀ g', Fr f g' (a + 14) 10 → (∀ r c, r < p 60 → c < p 60 → g' (a + 14 + r) c = nI (wayF p (m + 1) (6 * r + c))) → G X (Rm (d + 2)) mX5_trace 37 [(0, .ref a), (1, .int (nI (m + 1)))] [] (sI μ g') 0 0 K) → G X (Rm (d + 2)) mX5_trace 47 [(0, .ref a), (1, .int (nI m)), (2, .int (nI i))] [] (sI μ g) 0 0 K := by
    intro m hm
    refine dn (p 60) ?_ ?_
    · intro g h1 h2 hc
      exact b_X5_trace_47 (hw5_r0 := hw) (h := fun _ => hc g h1 (fun r c hr hc => by rw [h2 r c hr hc, if_pos hr]; rfl)) (h_2 := fun c => absurd (by rw [sz0 g h1]; exact le_r _) c)
    · intro i hi ih g h1 h2 hc
      refine b_X5_trace_47 (hw5_r0 := hw) (h := fun c => absurd c (by rw [sz0 g h1]; exact ge_c hi (by omega))) (h_2 := fun _ => ?_)
      refine H4 m hm i hi 0 (Nat.zero_le _) g h1 (fun r c hr hc => ?_) (fun g' h3 h4 => ih g' h3 h4 hc)
      rw [h2 r c hr hc]
      by_cases hlt : r < i
      · rw [if_pos hlt, if_pos (by omega)]
      · rw [if_neg hlt, if_neg (by omega)]
  have H2 : ∀ m, m ≤ p 60 → ∀ g, Fr f g (a + 14) 10 → (∀ r c, r < p 60 → c < p 60 → g (a + 14 + r) c = nI (wayF p m (6 * r + c))) → G X (Rm (d + 2)) mX5_trace 37 [(0, .ref a), (1, .int (nI m))] [] (sI μ g) 0 0 K := by
    refine dn (p 60) ?_ ?_
    · intro g h1 h2
      exact b_X5_trace_37 (hw5_r0 := hw) (h := fun _ => H5 0 (Nat.zero_le _) g h1 h2 (fun u j hu => absurd hu (Nat.not_lt_zero _))) (h_2 := fun c => absurd (by rw [sz0 g h1]; exact le_r _) c)
    · intro m hm ih g h1 h2
      refine b_X5_trace_37 (hw5_r0 := hw) (h := fun c => absurd c (by rw [sz0 g h1]; exact ge_c hm (by omega))) (h_2 := fun _ => ?_)
      exact H3 m hm 0 (Nat.zero_le _) g h1 (fun r c hr hc => by rw [if_neg (Nat.not_lt_zero _)]; exact h2 r c hr hc) ih
  have H1 : ∀ i, i ≤ p 60 → ∀ g, Fr f g (a + 14) 10 → (∀ r c, r < i → c < p 60 → g (a + 14 + r) c = nI (p (24 + (6 * r + c)))) → G X (Rm (d + 2)) mX5_trace 2 [(0, .ref a), (1, .int (nI i))] [] (sI μ g) 0 0 K := by
    refine dn (p 60) ?_ ?_
    · intro g h1 h2
      refine b_X5_trace_2 (hw5_r0 := hw) (h := fun _ => H2 0 (Nat.zero_le _) g h1 h2) (hb := ?_) (h_2 := ?_) <;> (intro c; exact absurd (by rw [sz0 g h1]; exact le_r _) c)
    · intro i hi ih g h1 h2
      refine b_X5_trace_2 (hw5_r0 := hw) (h := fun c => absurd c (by rw [sz0 g h1]; exact ge_c hi (by omega))) (hb := fun _ => by omega) (h_2 := fun _ => ?_)
      rw [cpI_sI]
      refine ih _ (Fr_cp2 h1 (by omega) (by omega)) (fun r c hr hc => ?_)
      by_cases hri : r = i
      · subst hri
        rw [cp2_row (by omega), (shp g h1).2.2.2 r c (by omega) (by omega), show 24 + 6 * r + c = 24 + (6 * r + c) by omega]
      · rw [cp2_x (by omega)]; exact h2 r c (by omega) hc
  exact H1 0 (Nat.zero_le _) f (Fr.rf _ _ _) (fun r c hr => absurd hr (Nat.not_lt_zero _))
end P23
