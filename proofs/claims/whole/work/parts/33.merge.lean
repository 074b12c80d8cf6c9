section P33
variable {X : cX} {d : Nat} {μ : mM} {K : Option Value → mM → Prop} {f : Nat → Nat → Int32} {a b y v w : Nat} {p : Nat → Nat}
theorem Sh.fr {g : Nat → Nat → Int32} (h : Sh f a p) (h0 : ∀ z, a ≤ z → z < a + 13 → ∀ j, g z j = f z j) : Sh g a p :=
  ⟨by rw [h0 _ (by omega) (by omega)]; exact h.1, fun i hi => by rw [h0 _ (by omega) (by omega)]; exact h.2.1 i hi, fun v i hv hi => by rw [h0 _ (by omega) (by omega)]; exact h.2.2.1 v i hv hi, fun i j hi hj => by rw [h0 _ (by omega) (by omega)]; exact h.2.2.2 i j hi hj⟩
/-- the rows and columns below c as they are met, the others 0 -/
def inC (c : Nat) (M : Nat → Nat → Nat) : Nat → Nat → Nat := fun i j => if i < c ∧ j < c then ecN (M i j) else 0
theorem c_merge {md : Nat} (hwa : WF5 μ a) (hwb : WF2 μ b) (hwb1 : WF5 μ (b + 1)) (hab : a + 24 ≤ b ∨ b + 26 ≤ a) (hs : Sh f a p) (hp : okP p) (hF : FS f b md p (p 60)) (hK : ∀ f', (∀ z, (z < b + 1 ∨ b + 26 ≤ z) → ∀ j, f' z j = f z j) → Sh f' (b + 1) (foldP p md) → K none (sI μ f')) : Ct X (Rm d) mX2_mergeNexts [.ref b, .ref a] (sI μ f) K := by
  have h6 := hp.1
  have hc := gc_le p md (p 60)
  have hl : ∀ i, i < p 60 → gr p md i < gc p md (p 60) := fun i hi => gr_lt _ _ hi
  have h2 : ∀ i j, i < p 60 → j < p 60 → p (24 + 6 * i + j) ≤ 2 := fun i j hi hj => hp.2.2.2.1 i j (by omega) (by omega)
  refine Ct_of rfl (Nat.le_of_ble_eq_true rfl) (b_X2_mergeNexts_0 ?_)
  have sg : ∀ g, (∀ z, (z < b + 1 ∨ b + 26 ≤ z) → ∀ j, g z j = f z j) → Sh g a p := fun g h => hs.fr (fun z h1 h2 j => h z (by omega) j)
  have S : ∀ i, i ≤ p 60 → ∀ g, (∀ z, (z < b + 1 ∨ b + 26 ≤ z) → ∀ j, g z j = f z j) → S4 g (b + 1) (gc p md (p 60)) (fdm p md (p 60)) (fdA p md (p 60)) (inC (gc p md (p 60)) (mm p (gr p md) (p 60) i)) → (∀ j, j < p 60 → g (b + 25) j = nI (gr p md j)) → G X (Rm d) mX2_mergeNexts 52 [(0, .ref b), (1, .ref a), (2, .int (nI i))] [] (sI μ g) 0 0 K := by
    refine dn (p 60) ?_ ?_
    · intro g q1 q2 q3
      refine b_X2_mergeNexts_52 (hw5_r1 := hwa) (hK := fun _ => hK g q1 (S4_pg (q2.cg (fun _ _ => rfl) (fun _ _ _ _ => rfl) (fun i j hi hj => ?_)))) (h := fun c => absurd (by rw [iv_sI, (sg g q1).1]; exact le_r _) c)
      have e3 := mm_3 hp (md := md) (a := i) (b := j)
      unfold fdN inC
      by_cases q : i < gc p md (p 60) ∧ j < gc p md (p 60)
      · rw [if_neg (fun r => e3.mp r q), if_pos q, ecN_n (fun r => e3.mp r q)]
      · rw [if_pos (e3.mpr q), if_neg q]
    · intro i hi ih g q1 q2 q3
      refine b_X2_mergeNexts_52 (hw5_r1 := hwa) (hK := fun c => absurd c (by rw [iv_sI, (sg g q1).1]; exact ge_c hi (by omega))) (h := fun _ => ?_)
      have H : ∀ j, j ≤ p 60 → ∀ g, (∀ z, (z < b + 1 ∨ b + 26 ≤ z) → ∀ j, g z j = f z j) → S4 g (b + 1) (gc p md (p 60)) (fdm p md (p 60)) (fdA p md (p 60)) (inC (gc p md (p 60)) (mr p (gr p md) (mm p (gr p md) (p 60) i) i j)) → (∀ j, j < p 60 → g (b + 25) j = nI (gr p md j)) → G X (Rm d) mX2_mergeNexts 62 [(0, .ref b), (1, .ref a), (2, .int (nI i)), (3, .int (nI j))] [] (sI μ g) 0 0 K := by
        refine dn (p 60) ?_ ?_
        · intro g q1 q2 q3
          refine b_X2_mergeNexts_62 (j0 := 0) (j1 := 0) (hw5_r1 := hwa) (h := fun _ => ih g q1 q2 q3) (hw2_r0 := hwb) (hw5_r01 := hwb1) (hb := ?_) (hi_j0 := ?_) (hb_2 := ?_) (hb_3 := ?_) (hi_j1 := ?_) (hb_4 := ?_) (h_2 := ?_) (h_3 := ?_) (h_4 := ?_) <;> (intro c; rw [iv_sI, (sg g q1).1] at c; exact absurd (le_r _) c)
        · intro j hj ih2 g q1 q2 q3
          have gi := q3 i hi
          have gj := q3 j hj
          have li := hl i hi
          have lj := hl j hj
          have Mle : mr p (gr p md) (mm p (gr p md) (p 60) i) i j (gr p md i) (gr p md j) ≤ 3 := mr_le (mm_le i (fun r k hr hk => h2 r k (by omega) hk)) j (fun k hk => h2 i k hi (by omega)) _ _
          have tle := h2 i j hi hj
          have m1 : iv (sI μ g) (b + 1 + 7 + gr p md i) (gr p md j) = nI (ecN (mr p (gr p md) (mm p (gr p md) (p 60) i) i j (gr p md i) (gr p md j))) := by
            have := q2.2.2.2 (gr p md i) (gr p md j) (by omega) (by omega)
            unfold inC at this
            rw [if_pos ⟨li, lj⟩] at this
            exact this
          have t1 : iv (sI μ g) (a + 7 + i) j = nI (p (24 + 6 * i + j)) := (sg g q1).2.2.2 i j (by omega) (by omega)
          have step : ∀ t : Nat, t = mr p (gr p md) (mm p (gr p md) (p 60) i) i (j + 1) (gr p md i) (gr p md j) → t ≠ 3 → G X (Rm d) mX2_mergeNexts 142 [(0, .ref b), (1, .ref a), (2, .int (nI i)), (3, .int (nI j))] [.int (nI t), .int (iv (sI μ g) (b + 25) j), .ref (b + 1 + 7 + gr p md i)] (sI μ g) 0 0 K := by
            intro t ht ht3
            refine b_X2_mergeNexts_142 (n0 := 6) (j0 := gr p md j) (hk_q0 := w5_q3 hwb1 _ (by omega)) (hi_j0 := gj) (hb := by omega) (h := ?_)
            rw [wi_sI]
            refine ih2 _ (fun z hz k => by rw [u2_x (by omega)]; exact q1 z hz k) (S4.uN q2 (by omega) ?_ (fun r k hr hk hne => ?_)) (fun k hk => by rw [u2_x (by omega)]; exact q3 k hk)
            · unfold inC
              rw [if_pos ⟨li, lj⟩, ← ht, ecN_n ht3]
            · unfold inC
              have e9 : mr p (gr p md) (mm p (gr p md) (p 60) i) i (j + 1) r k = mr p (gr p md) (mm p (gr p md) (p 60) i) i j r k := if_neg (by omega)
              rw [e9]
          have stv : mr p (gr p md) (mm p (gr p md) (p 60) i) i (j + 1) (gr p md i) (gr p md j) = if mr p (gr p md) (mm p (gr p md) (p 60) i) i j (gr p md i) (gr p md j) = 3 ∨ mr p (gr p md) (mm p (gr p md) (p 60) i) i j (gr p md i) (gr p md j) = p (24 + 6 * i + j) then p (24 + 6 * i + j) else 1 := if_pos ⟨rfl, rfl⟩
          refine b_X2_mergeNexts_62 (j0 := gr p md i) (j1 := gr p md j) (hw5_r1 := hwa) (h := fun c => absurd c (by rw [iv_sI, (sg g q1).1]; exact ge_c hj (by omega))) (hw2_r0 := hwb) (hw5_r01 := hwb1) (hb := fun _ => by omega) (hi_j0 := fun _ => gi) (hb_2 := fun _ => by omega) (hb_3 := fun _ => by omega) (hi_j1 := fun _ => gj) (hb_4 := fun _ => by omega) (h_2 := fun _ c => ?_) (h_3 := fun _ c1 c2 => ?_) (h_4 := fun _ c1 c2 => ?_)
          · rw [m1, ecN_m1 Mle] at c
            rw [t1]
            refine b_X2_mergeNexts_136 (step _ ?_ (by omega))
            rw [stv, if_pos (Or.inl c)]
          · rw [m1, ecN_m1 Mle] at c1
            rw [m1, t1, ecN_eq Mle c1 tle] at c2
            refine step 1 ?_ (by omega)
            rw [stv, if_neg (by omega)]
          · rw [m1, ecN_m1 Mle] at c1
            rw [m1, t1, ecN_eq Mle c1 tle] at c2
            rw [t1]
            refine b_X2_mergeNexts_136 (step _ ?_ (by omega))
            rw [stv, if_pos (Or.inr c2)]
      exact H 0 (Nat.zero_le _) g q1 q2 q3
  have Z : ∀ i, i ≤ gc p md (p 60) → ∀ g, (∀ z, (z < b + 1 ∨ b + 26 ≤ z) → ∀ j, g z j = f z j) → S4 g (b + 1) (gc p md (p 60)) (fdm p md (p 60)) (fdA p md (p 60)) (fun r k => if r < i ∧ k < gc p md (p 60) then ecN 3 else 0) → (∀ j, j < p 60 → g (b + 25) j = nI (gr p md j)) → G X (Rm d) mX2_mergeNexts 2 [(0, .ref b), (1, .ref a), (2, .int (nI i))] [] (sI μ g) 0 0 K := by
    refine dn (gc p md (p 60)) ?_ ?_
    · intro g q1 q2 q3
      refine b_X2_mergeNexts_2 (hw2_r0 := hwb) (hw5_r01 := hwb1) (h := fun _ => S 0 (Nat.zero_le _) g q1 q2 q3) (h_2 := fun c => absurd (by rw [iv_sI, q2.1]; exact le_r _) c)
    · intro i hi ih g q1 q2 q3
      refine b_X2_mergeNexts_2 (hw2_r0 := hwb) (hw5_r01 := hwb1) (h := fun c => absurd c (by rw [iv_sI, q2.1]; exact ge_c hi (by omega))) (h_2 := fun _ => ?_)
      have H : ∀ j, j ≤ gc p md (p 60) → ∀ g, (∀ z, (z < b + 1 ∨ b + 26 ≤ z) → ∀ j, g z j = f z j) → S4 g (b + 1) (gc p md (p 60)) (fdm p md (p 60)) (fdA p md (p 60)) (fun r k => if (r < i ∧ k < gc p md (p 60)) ∨ (r = i ∧ k < j) then ecN 3 else 0) → (∀ j, j < p 60 → g (b + 25) j = nI (gr p md j)) → G X (Rm d) mX2_mergeNexts 15 [(0, .ref b), (1, .ref a), (2, .int (nI i)), (3, .int (nI j))] [] (sI μ g) 0 0 K := by
        refine dn (gc p md (p 60)) ?_ ?_
        · intro g q1 q2 q3
          refine b_X2_mergeNexts_15 (hw2_r0 := hwb) (hw5_r01 := hwb1) (h := fun _ => ih g q1 (q2.cg (fun _ _ => rfl) (fun _ _ _ _ => rfl) (fun r k hr hk => ?_)) q3) (hb := ?_) (hb_2 := ?_) (h_2 := ?_)
          · (try dsimp only)
            by_cases q : r < i + 1 ∧ k < gc p md (p 60)
            · rw [if_pos q, if_pos (by omega)]
            · rw [if_neg q, if_neg (by omega)]
          all_goals (intro c; rw [iv_sI, q2.1] at c; exact absurd (le_r _) c)
        · intro j hj ih2 g q1 q2 q3
          refine b_X2_mergeNexts_15 (hw2_r0 := hwb) (hw5_r01 := hwb1) (h := fun c => absurd c (by rw [iv_sI, q2.1]; exact ge_c hj (by omega))) (hb := fun _ => by omega) (hb_2 := fun _ => by omega) (h_2 := fun _ => ?_)
          rw [← ecN_3, wi_sI]
          refine ih2 _ (fun z hz k => by rw [u2_x (by omega)]; exact q1 z hz k) (S4.uN q2 (by omega) (by (try dsimp only); rw [if_pos (by omega)]) (fun r k hr hk hne => ?_)) (fun k hk => by rw [u2_x (by omega)]; exact q3 k hk)
          (try dsimp only)
          by_cases q : (r < i ∧ k < gc p md (p 60)) ∨ (r = i ∧ k < j)
          · rw [if_pos q, if_pos (by omega)]
          · rw [if_neg q, if_neg (by omega)]
      refine H 0 (Nat.zero_le _) g q1 (q2.cg (fun _ _ => rfl) (fun _ _ _ _ => rfl) (fun r k hr hk => ?_)) q3
      (try dsimp only)
      by_cases q : r < i ∧ k < gc p md (p 60)
      · rw [if_pos q, if_pos (Or.inl q)]
      · rw [if_neg q, if_neg (by omega)]
  exact Z 0 (Nat.zero_le _) f (fun _ _ _ => rfl) (hF.1.cg (fun _ _ => rfl) (fun _ _ _ _ => rfl) (fun r k _ _ => by (try dsimp only); rw [if_neg (by omega)])) hF.2
theorem c_fold {md : Nat} (hwa : WF5 μ a) (hwb : WF2 μ b) (hwb1 : WF5 μ (b + 1)) (hab : a + 24 ≤ b ∨ b + 26 ≤ a) (hs : Sh f a p) (hp : okP p) (hmd : md ≤ 1) (hK : ∀ f', (∀ z, (z < a ∨ a + 24 ≤ z) → (z < b + 1 ∨ b + 26 ≤ z) → ∀ j, f' z j = f z j) → Sh f' a (foldP p md) → K none (sI μ f')) : Ct X (Rm (d + 3)) mX2_apply [.ref b, .ref a, .int (nI md)] (sI μ f) K := by
  have h6 := hp.1
  refine Ct_of rfl (Nat.le_of_ble_eq_true rfl) (b_X2_apply_0 hwa ?_)
  refine c_trace hwa hs hp (fun f1 r1 r2 r3 => b_X2_apply_4 hwb hwb1 (c_clear hwb1 (fun f2 s1 s2 => b_X2_apply_11 ?_)))
  have H : ∀ i, i ≤ p 60 → ∀ g, (∀ z, (z < b + 1 ∨ b + 26 ≤ z) → ∀ j, g z j = f1 z j) → FS g b md p i → G X (Rm (d + 3)) mX2_apply 13 [(0, .ref b), (1, .ref a), (2, .int (nI md)), (3, .int (nI i))] [] (sI μ g) 0 0 K := by
    refine dn (p 60) ?_ ?_
    · intro g q1 q2
      have sg : Sh g a p := hs.fr (fun z h1 h2 j => (q1 z (by omega) j).trans (r1 z (by omega) j))
      refine b_X2_apply_13 (hw5_r1 := hwa) (hw2_r0 := hwb) (hc_mergeNexts := fun _ => ?_) (hc_joinGroup := fun c => absurd (by rw [iv_sI, sg.1]; exact le_r _) c)
      refine c_merge hwa hwb hwb1 hab sg hp q2 (fun f3 t1 t2 => b_X2_apply_39 hwb hwa (c_copy hwa hwb1 (by omega) t2 (fun i hi => (okP_fold hp md).2.1 i hi) (fun f4 u1 u2 => b_X2_apply_47 (hK f4 (fun z h1 h2 j => ?_) u2))))
      rw [u1 z (by omega), t1 z (by omega), q1 z (by omega), r1 z (by omega)]
    · intro i hi ih g q1 q2
      have sg : Sh g a p := hs.fr (fun z h1 h2 j => (q1 z (by omega) j).trans (r1 z (by omega) j))
      refine b_X2_apply_13 (hw5_r1 := hwa) (hw2_r0 := hwb) (hc_mergeNexts := fun c => absurd c (by rw [iv_sI, sg.1]; exact ge_c hi (by omega))) (hc_joinGroup := fun _ => ?_)
      exact c_joinGroup hwa hwb hwb1 hab sg hp hmd hi (fun v j hv hj => by rw [q1 _ (by omega)]; exact r3 v j hv hj) q2 (fun f3 t1 t2 => b_X2_apply_28 (ih f3 (fun z hz j => (t1 z hz j).trans (q1 z hz j)) t2))
  refine H 0 (Nat.zero_le _) f2 (fun z hz j => s1 z (by omega) j) ⟨⟨s2.1, fun i hi => s2.2.1 i hi, fun v i hv hi => s2.2.2.1 v i hv hi, fun i j hi hj => s2.2.2.2 i j hi hj⟩, fun j hj => absurd hj (Nat.not_lt_zero _)⟩
end P33
