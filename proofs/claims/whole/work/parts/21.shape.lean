theorem b01 {m : Nat} (h : m ≤ 1) : nI m = 0 ∨ nI m = 1 := by
  rcases (by omega : m = 0 ∨ m = 1) with rfl | rfl
  · exact Or.inl rfl
  · exact Or.inr rfl
theorem nI_z {m : Nat} (h : m < 2 ^ 31) : nI m = 0 ↔ m = 0 := nI_eq h (by decide : 0 < 2 ^ 31)
theorem lt_c {i n : Nat} (hi : i < 2 ^ 31) (hn : n < 2 ^ 31) (h : ¬ nI n ≤ nI i) : i < n := by
  rw [nI_leI hn hi] at h
  omega
section P21
variable {X : cX} {d : Nat} {μ : mM} {K : Option Value → mM → Prop} {f : Nat → Nat → Int32} {a v : Nat} {p : Nat → Nat}
theorem c_copy {b : Nat} (hw : WF5 μ a) (hwb : WF5 μ b) (hab : a + 24 ≤ b ∨ b + 24 ≤ a) (hs : Sh f b p) (hm : ∀ i, i < 6 → p i ≤ 1) (hK : ∀ f', Fr f f' a 24 → Sh f' a p → K none (sI μ f')) : Ct X (Rm (d + 1)) mX5_copy [.ref a, .ref b] (sI μ f) K := by
  refine Ct_of rfl (Nat.le_of_ble_eq_true rfl) (b_X5_copy_0 (hw5_r0 := hw) (hw5_r1 := hwb) (h := ?_))
  rw [wi_sI, iv_sI, hs.1]
  have H2 : ∀ i, i ≤ 6 → ∀ g, Fr f g a 24 → g a 0 = nI (p 60) → (∀ v j, v < 3 → j < 6 → g (a + 3 + v) j = nI (p (6 + 6 * v + j))) → (∀ k, k < i → g (a + 1) k = nI (p k) ∧ ∀ j, j < 6 → g (a + 7 + k) j = nI (p (24 + 6 * k + j))) → G X (Rm (d + 1)) mX5_copy 42 [(0, .ref a), (1, .ref b), (2, .int (nI i))] [] (sI μ g) 0 0 K := by
    refine dn 6 ?_ ?_
    · intro g h1 h2 h3 h4
      refine b_X5_copy_42 (hK := fun _ => hK g h1 ⟨h2, fun i hi => (h4 i hi).1, h3, fun i j hi hj => (h4 i hi).2 j hj⟩) (hw5_r0 := hw) (hw5_r1 := hwb) (hb := ?_) (hz := ?_) (h := ?_) <;> (intro c; exact absurd (le_r _) c)
    · intro i hi ih g h1 h2 h3 h4
      have e1 : g (b + 1) i = nI (p i) := by rw [h1 (b + 1) (by omega)]; exact hs.2.1 i hi
      refine b_X5_copy_42 (hK := fun c => absurd c (ge_c (n := 6) hi (by decide))) (hw5_r0 := hw) (hw5_r1 := hwb) (hb := fun _ => hi) (hz := fun _ => by rw [iv_sI, e1]; exact b01 (hm i hi)) (h := fun _ => ?_)
      rw [iv_sI, e1, wi_sI, cpI_sI]
      refine ih _ (Fr_cp2 (Fr_u2 h1 (by omega) (by omega)) (by omega) (by omega)) ?_ ?_ ?_
      · rw [cp2_x (by omega), u2_x (by omega)]; exact h2
      · intro v j hv hj
        rw [cp2_x (by omega), u2_x (by omega)]; exact h3 v j hv hj
      · intro k hk
        by_cases hki : k = i
        · subst hki
          refine ⟨by rw [cp2_x (by omega), u2_s], fun j hj => ?_⟩
          rw [cp2_row hj, u2_x (by omega), h1 (b + 7 + k) (by omega)]
          exact hs.2.2.2 k j hi hj
        · refine ⟨by rw [cp2_x (by omega), u2_k hki]; exact (h4 k (by omega)).1, fun j hj => ?_⟩
          rw [cp2_x (by omega), u2_x (by omega)]
          exact (h4 k (by omega)).2 j hj
  have H1 : ∀ i, i ≤ 3 → ∀ g, Fr f g a 24 → g a 0 = nI (p 60) → (∀ v j, v < i → j < 6 → g (a + 3 + v) j = nI (p (6 + 6 * v + j))) → G X (Rm (d + 1)) mX5_copy 10 [(0, .ref a), (1, .ref b), (2, .int (nI i))] [] (sI μ g) 0 0 K := by
    refine dn 3 ?_ ?_
    · intro g h1 h2 h3
      refine b_X5_copy_10 (h := fun _ => H2 0 (Nat.zero_le _) g h1 h2 h3 (fun k hk => absurd hk (Nat.not_lt_zero _))) (hw5_r1 := hwb) (hw5_r0 := hw) (hb := ?_) (h_2 := ?_) <;> (intro c; exact absurd (le_r _) c)
    · intro i hi ih g h1 h2 h3
      refine b_X5_copy_10 (h := fun c => absurd c (ge_c (n := 3) hi (by decide))) (hw5_r1 := hwb) (hw5_r0 := hw) (hb := fun _ => hi) (h_2 := fun _ => ?_)
      rw [cpI_sI]
      refine ih _ (Fr_cp2 h1 (by omega) (by omega)) ?_ ?_
      · rw [cp2_x (by omega)]; exact h2
      · intro v j hv hj
        by_cases hvi : v = i
        · subst hvi
          rw [cp2_row hj, h1 (b + 3 + v) (by omega)]
          exact hs.2.2.1 v j hi hj
        · rw [cp2_x (by omega)]; exact h3 v j (by omega) hj
  exact H1 0 (Nat.zero_le _) _ (Fr_u2 (Fr.rf f a 24) (by omega) (by omega)) (u2_s f a 0 _) (fun v j hv => absurd hv (Nat.not_lt_zero _))
theorem c_manys (hw : WF5 μ a) (hs : Sh f a p) (hp : okP p) (hK : K (some (.int (nI (cq p 1 0 (p 60))))) (sI μ f)) : Ct X (Rm d) mX5_manys [.ref a] (sI μ f) K := by
  have h6 := hp.1
  refine Ct_of rfl (Nat.le_of_ble_eq_true rfl) (b_X5_manys_0 ?_)
  have H : ∀ i, i ≤ p 60 → G X (Rm d) mX5_manys 4 [(0, .ref a), (1, .int (nI (cq p 1 0 i))), (2, .int (nI i))] [] (sI μ f) 0 0 K := by
    refine dn (p 60) ?_ ?_
    · refine b_X5_manys_4 (hw5_r0 := hw) (hK := fun _ => hK) (hb := ?_) (h := ?_) (h_2 := ?_) <;> (intro c; rw [iv_sI, hs.1] at c; exact absurd (le_r _) c)
    · intro i hi ih
      have hi6 : i < 6 := by omega
      have hm := hp.2.1 i hi6
      have e1 : iv (sI μ f) (a + 1) i = nI (p i) := hs.2.1 i hi6
      refine b_X5_manys_4 (hw5_r0 := hw) (hK := fun c => absurd c (by rw [iv_sI, hs.1]; exact ge_c hi (by omega))) (hb := fun _ => hi6) (h := fun _ c => b_X5_manys_24 ?_) (h_2 := fun _ c => b_X5_manys_24 ?_)
      · rw [e1, nI_z (by omega)] at c
        have e : cq p 1 0 (i + 1) = cq p 1 0 i := by show cq p 1 0 i + (if p (0 + i) = 1 then 1 else 0) = _; rw [if_neg (by rw [Nat.zero_add]; omega)]; rfl
        rw [e] at ih
        exact ih
      · rw [e1, nI_z (by omega)] at c
        have e : cq p 1 0 (i + 1) = cq p 1 0 i + 1 := by show cq p 1 0 i + (if p (0 + i) = 1 then 1 else 0) = _; rw [if_pos (by rw [Nat.zero_add]; omega)]
        rw [e] at ih
        exact ih
  exact H 0 (Nat.zero_le _)
theorem c_cells {r k0 t : Nat} (hw : WF5 μ a) (hs : Sh f a p) (hp : okP p) (hk : kd μ r = (1, 6)) (hr : ∀ i, i < 6 → f r i = nI (p (k0 + i))) (hb : ∀ i, i < 6 → p (k0 + i) ≤ 2) (ht : t ≤ 2) (hK : K (some (.int (nI (cq p t k0 (p 60))))) (sI μ f)) : Ct X (Rm d) mX5_cellsThatAre [.ref a, .ref r, .int (nI t)] (sI μ f) K := by
  have h6 := hp.1
  refine Ct_of rfl (Nat.le_of_ble_eq_true rfl) (b_X5_cellsThatAre_0 ?_)
  have H : ∀ i, i ≤ p 60 → G X (Rm d) mX5_cellsThatAre 5 [(0, .ref a), (1, .ref r), (2, .int (nI t)), (3, .int (nI (cq p t k0 i))), (4, .int (nI i))] [] (sI μ f) 0 0 K := by
    refine dn (p 60) ?_ ?_
    · refine b_X5_cellsThatAre_5 (n0 := 6) (hw5_r0 := hw) (hK := fun _ => hK) (hk_r1 := hk) (hb := ?_) (h := ?_) (h_2 := ?_) <;> (intro c; rw [iv_sI, hs.1] at c; exact absurd (le_r _) c)
    · intro i hi ih
      have hi6 : i < 6 := by omega
      have hm := hb i hi6
      have e1 : iv (sI μ f) r i = nI (p (k0 + i)) := hr i hi6
      refine b_X5_cellsThatAre_5 (n0 := 6) (hw5_r0 := hw) (hK := fun c => absurd c (by rw [iv_sI, hs.1]; exact ge_c hi (by omega))) (hk_r1 := hk) (hb := fun _ => hi6) (h := fun _ c => b_X5_cellsThatAre_25 ?_) (h_2 := fun _ c => b_X5_cellsThatAre_25 ?_)
      · rw [e1, nI_eq (by omega) (by omega)] at c
        have e : cq p t k0 (i + 1) = cq p t k0 i := by show cq p t k0 i + (if p (k0 + i) = t then 1 else 0) = _; rw [if_neg c]; rfl
        rw [e] at ih
        exact ih
      · rw [e1, nI_eq (by omega) (by omega)] at c
        have e : cq p t k0 (i + 1) = cq p t k0 i + 1 := by show cq p t k0 i + (if p (k0 + i) = t then 1 else 0) = _; rw [if_pos c]
        rw [e] at ih
        exact ih
  exact H 0 (Nat.zero_le _)
/-- the sum over m rows of six from k0 on, of how many of the first n are t -/
def sq (p : Nat → Nat) (t k0 n : Nat) : Nat → Nat
  | 0 => 0
  | m + 1 => sq p t k0 n m + cq p t (k0 + 6 * m) n
theorem c_ats {t : Nat} (hw : WF5 μ a) (hs : Sh f a p) (hp : okP p) (ht : t ≤ 2) (hK : K (some (.int (nI (sq p t 6 (p 60) 3)))) (sI μ f)) : Ct X (Rm (d + 1)) mX5_atsThatAre [.ref a, .int (nI t)] (sI μ f) K := by
  refine Ct_of rfl (Nat.le_of_ble_eq_true rfl) (b_X5_atsThatAre_0 ?_)
  have H : ∀ i, i ≤ 3 → G X (Rm (d + 1)) mX5_atsThatAre 4 [(0, .ref a), (1, .int (nI t)), (2, .int (nI (sq p t 6 (p 60) i))), (3, .int (nI i))] [] (sI μ f) 0 0 K := by
    refine dn 3 ?_ ?_
    · refine b_X5_atsThatAre_4 (hw5_r0 := hw) (hK := fun _ => hK) (hb := ?_) (hc_cellsThatAre := ?_) <;> (intro c; exact absurd (le_r _) c)
    · intro i hi ih
      refine b_X5_atsThatAre_4 (hw5_r0 := hw) (hK := fun c => absurd c (ge_c (n := 3) hi (by decide))) (hb := fun _ => hi) (hc_cellsThatAre := fun _ => ?_)
      refine c_cells (k0 := 6 + 6 * i) hw hs hp (w5_q2 hw i hi) (fun j hj => hs.2.2.1 i j hi hj) (fun j hj => hp.2.2.1 i j hi hj) ht (b_X5_atsThatAre_21 ?_)
      rw [nI_add]
      exact ih
  exact H 0 (Nat.zero_le _)
theorem c_nexts {t : Nat} (hw : WF5 μ a) (hs : Sh f a p) (hp : okP p) (ht : t ≤ 2) (hK : K (some (.int (nI (sq p t 24 (p 60) (p 60))))) (sI μ f)) : Ct X (Rm (d + 1)) mX5_nextsThatAre [.ref a, .int (nI t)] (sI μ f) K := by
  have h6 := hp.1
  refine Ct_of rfl (Nat.le_of_ble_eq_true rfl) (b_X5_nextsThatAre_0 ?_)
  have H : ∀ i, i ≤ p 60 → G X (Rm (d + 1)) mX5_nextsThatAre 4 [(0, .ref a), (1, .int (nI t)), (2, .int (nI (sq p t 24 (p 60) i))), (3, .int (nI i))] [] (sI μ f) 0 0 K := by
    refine dn (p 60) ?_ ?_
    · refine b_X5_nextsThatAre_4 (hw5_r0 := hw) (hK := fun _ => hK) (hb := ?_) (hc_cellsThatAre := ?_) <;> (intro c; rw [iv_sI, hs.1] at c; exact absurd (le_r _) c)
    · intro i hi ih
      have hi6 : i < 6 := by omega
      refine b_X5_nextsThatAre_4 (hw5_r0 := hw) (hK := fun c => absurd c (by rw [iv_sI, hs.1]; exact ge_c hi (by omega))) (hb := fun _ => hi6) (hc_cellsThatAre := fun _ => ?_)
      refine c_cells (k0 := 24 + 6 * i) hw hs hp (w5_q3 hw i hi6) (fun j hj => hs.2.2.2 i j hi6 hj) (fun j hj => hp.2.2.2.1 i j hi6 hj) ht (b_X5_nextsThatAre_24 ?_)
      rw [nI_add]
      exact ih
  exact H 0 (Nat.zero_le _)
end P21
