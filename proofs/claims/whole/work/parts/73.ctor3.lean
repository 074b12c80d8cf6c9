/-- nothing told -/
def σ0 : aS := fun r _ => if r = 7 then 3 else 0
def D12 (a : Nat) : Nat → Prop := fun z => z = a + 5 ∨ z = a + 6 ∨ z = a + 14
section P73
variable {X : cX} {μ : mM} {K : Option Value → mM → Prop} {a : Nat}
theorem S12_1 (hk : kd μ a = (0, 12)) (hs : sz μ = a + 1) (h : ∀ m, SG (D12 a) a 0 (a + 1) μ m → sz m = a + 2 → kd m a = (0, 12) → kd m (a + 1) = (1, 366) → G X (RC 1 16 1383) mX12_init 13 [(0, .ref a)] [] m 1 366 K) : G X (RC 1 16 1383) mX12_init 0 [(0, .ref a)] [] μ 0 0 K := by
  refine b_X12_init_0 (R' := Rm 0) ⟨Nat.le_of_ble_eq_true rfl, Nat.le_of_ble_eq_true rfl, Nat.le_of_ble_eq_true rfl, Nat.le_of_ble_eq_true rfl⟩ (Nat.le_of_ble_eq_true rfl) (Nat.le_of_ble_eq_true rfl) ?_
  refine b_X12_init_10 (R' := Rm 0) (by rw [kd_al, if_neg (by omega)]; exact hk) ?_
  obtain ⟨s1, z1, k1⟩ := SG_al (μ := μ) (a := a) (s := a + 1) (q := (1, 366)) 0 (D12 a) hs (by omega)
  exact h _ s1 z1 ((s1.1.2.1 a (by omega)).trans hk) k1
theorem S12_2 (hk : kd μ a = (0, 12)) (hs : sz μ = a + 2) (h : ∀ m, SG (D12 a) a 1 (a + 2) μ m → sz m = a + 3 → kd m a = (0, 12) → kd m (a + 2) = (1, 192) → G X (RC 1 16 1383) mX12_init 22 [(0, .ref a)] [] m 2 558 K) : G X (RC 1 16 1383) mX12_init 13 [(0, .ref a)] [] μ 1 366 K := by
  refine b_X12_init_13 (R' := Rm 0) (Nat.le_of_ble_eq_true rfl) (Nat.le_of_ble_eq_true rfl) ?_
  refine b_X12_init_19 (R' := Rm 0) (by rw [kd_al, if_neg (by omega)]; exact hk) ?_
  obtain ⟨s1, z1, k1⟩ := SG_al (μ := μ) (a := a) (s := a + 2) (q := (1, 192)) 1 (D12 a) hs (by omega)
  exact h _ s1 z1 ((s1.1.2.1 a (by omega)).trans hk) k1
theorem S12_3 (hk : kd μ a = (0, 12)) (hs : sz μ = a + 3) (h : ∀ m, SG (D12 a) a 3 (a + 3) μ m → sz m = a + 4 → kd m a = (0, 12) → kd m (a + 3) = (1, 192) → G X (RC 1 16 1383) mX12_init 31 [(0, .ref a)] [] m 3 750 K) : G X (RC 1 16 1383) mX12_init 22 [(0, .ref a)] [] μ 2 558 K := by
  refine b_X12_init_22 (R' := Rm 0) (Nat.le_of_ble_eq_true rfl) (Nat.le_of_ble_eq_true rfl) ?_
  refine b_X12_init_28 (R' := Rm 0) (by rw [kd_al, if_neg (by omega)]; exact hk) ?_
  obtain ⟨s1, z1, k1⟩ := SG_al (μ := μ) (a := a) (s := a + 3) (q := (1, 192)) 3 (D12 a) hs (by omega)
  exact h _ s1 z1 ((s1.1.2.1 a (by omega)).trans hk) k1
theorem S12_4 (hk : kd μ a = (0, 12)) (hs : sz μ = a + 4) (h : ∀ m, SG (D12 a) a 5 (a + 4) μ m → sz m = a + 5 → kd m a = (0, 12) → kd m (a + 4) = (1, 320) → G X (RC 1 16 1383) mX12_init 40 [(0, .ref a)] [] m 4 1070 K) : G X (RC 1 16 1383) mX12_init 31 [(0, .ref a)] [] μ 3 750 K := by
  refine b_X12_init_31 (R' := Rm 0) (Nat.le_of_ble_eq_true rfl) (Nat.le_of_ble_eq_true rfl) ?_
  refine b_X12_init_37 (R' := Rm 0) (by rw [kd_al, if_neg (by omega)]; exact hk) ?_
  obtain ⟨s1, z1, k1⟩ := SG_al (μ := μ) (a := a) (s := a + 4) (q := (1, 320)) 5 (D12 a) hs (by omega)
  exact h _ s1 z1 ((s1.1.2.1 a (by omega)).trans hk) k1
theorem S12_5 (hk : kd μ a = (0, 12)) (hs : sz μ = a + 5) (h : ∀ m, SG (D12 a) a 15 (a + 5) μ m → sz m = a + 6 → kd m a = (0, 12) → kd m (a + 5) = (1, 14) → (∀ i, i < 14 → iv m (a + 5) i = nI (endN i)) → G X (RC 1 16 1383) mX12_init 124 [(0, .ref a)] [] m 5 1084 K) : G X (RC 1 16 1383) mX12_init 40 [(0, .ref a)] [] μ 4 1070 K := by
  refine b_X12_init_40 (R' := Rm 0) (Nat.le_of_ble_eq_true rfl) (Nat.le_of_ble_eq_true rfl) ?_
  have hq : kd (al μ (1, 14)) (sz μ) = (1, 14) := by rw [kd_al, if_pos rfl]
  have h0 : kd (al μ (1, 14)) a = (0, 12) := by rw [kd_al, if_neg (by omega)]; exact hk
  refine b_X12_init_45 (R' := Rm 0) (n0 := 14) hq (by decide) (by decide) (by decide) (by decide) (by decide) (by decide) ?_
  refine b_X12_init_73 (R' := Rm 0) (n0 := 14) hq (by decide) (by decide) (by decide) (by decide) (by decide) (by decide) ?_
  refine b_X12_init_109 (R' := Rm 0) (n0 := 14) hq (by decide) (by decide) h0 ?_
  have w : WX (sz μ) (al μ (1, 14)) (wi (wi (wi (wi (wi (wi (wi (wi (wi (wi (wi (wi (wi (wi (al μ (1, 14)) (sz μ) 0 0) (sz μ) 1 2) (sz μ) 2 7) (sz μ) 3 11) (sz μ) 4 15) (sz μ) 5 19) (sz μ) 6 22) (sz μ) 7 25) (sz μ) 8 27) (sz μ) 9 31) (sz μ) 10 34) (sz μ) 11 39) (sz μ) 12 42) (sz μ) 13 46) := by repeat (first | exact WX.rf | apply WX.w1)
  have v : ∀ i, i < 14 → iv (wi (wi (wi (wi (wi (wi (wi (wi (wi (wi (wi (wi (wi (wi (al μ (1, 14)) (sz μ) 0 0) (sz μ) 1 2) (sz μ) 2 7) (sz μ) 3 11) (sz μ) 4 15) (sz μ) 5 19) (sz μ) 6 22) (sz μ) 7 25) (sz μ) 8 27) (sz μ) 9 31) (sz μ) 10 34) (sz μ) 11 39) (sz μ) 12 42) (sz μ) 13 46) (sz μ) i = nI (endN i) := by intro i hi; simp only [iv_wi_s]; rw [iv_al, if_pos rfl]; revert i; decide +kernel
  have t := SG_w (D := D12 a) (a := a) 15 rfl (by omega) w (Or.inl (Or.inl hs))
  replace v : ∀ i, i < 14 → iv (wr (wi (wi (wi (wi (wi (wi (wi (wi (wi (wi (wi (wi (wi (wi (al μ (1, 14)) (sz μ) 0 0) (sz μ) 1 2) (sz μ) 2 7) (sz μ) 3 11) (sz μ) 4 15) (sz μ) 5 19) (sz μ) 6 22) (sz μ) 7 25) (sz μ) 8 27) (sz μ) 9 31) (sz μ) 10 34) (sz μ) 11 39) (sz μ) 12 42) (sz μ) 13 46) a 15 (some (sz μ))) (sz μ) i = nI (endN i) := v
  generalize wr (wi (wi (wi (wi (wi (wi (wi (wi (wi (wi (wi (wi (wi (wi (al μ (1, 14)) (sz μ) 0 0) (sz μ) 1 2) (sz μ) 2 7) (sz μ) 3 11) (sz μ) 4 15) (sz μ) 5 19) (sz μ) 6 22) (sz μ) 7 25) (sz μ) 8 27) (sz μ) 9 31) (sz μ) 10 34) (sz μ) 11 39) (sz μ) 12 42) (sz μ) 13 46) a 15 (some (sz μ)) = m at t v ⊢
  rw [hs] at t v
  exact h _ t.1 t.2.1 ((t.1.1.2.1 a (by omega)).trans hk) t.2.2 v
theorem S12_6 (hk : kd μ a = (0, 12)) (hs : sz μ = a + 6) (h : ∀ m, SG (D12 a) a 16 (a + 6) μ m → sz m = a + 7 → kd m a = (0, 12) → kd m (a + 6) = (1, 46) → (∀ i, i < 46 → iv m (a + 6) i = nI (letN i)) → G X (RC 1 16 1383) mX12_init 402 [(0, .ref a)] [] m 6 1130 K) : G X (RC 1 16 1383) mX12_init 124 [(0, .ref a)] [] μ 5 1084 K := by
  refine b_X12_init_124 (R' := Rm 0) (Nat.le_of_ble_eq_true rfl) (Nat.le_of_ble_eq_true rfl) ?_
  have hq : kd (al μ (1, 46)) (sz μ) = (1, 46) := by rw [kd_al, if_pos rfl]
  have h0 : kd (al μ (1, 46)) a = (0, 12) := by rw [kd_al, if_neg (by omega)]; exact hk
  refine b_X12_init_129 (R' := Rm 0) (n0 := 46) hq (by decide) (by decide) (by decide) (by decide) ?_
  refine b_X12_init_149 (R' := Rm 0) (n0 := 46) hq (by decide) (by decide) (by decide) (by decide) (by decide) (by decide) ?_
  refine b_X12_init_183 (R' := Rm 0) (n0 := 46) hq (by decide) (by decide) (by decide) (by decide) (by decide) (by decide) ?_
  refine b_X12_init_219 (R' := Rm 0) (n0 := 46) hq (by decide) (by decide) (by decide) (by decide) (by decide) (by decide) ?_
  refine b_X12_init_255 (R' := Rm 0) (n0 := 46) hq (by decide) (by decide) (by decide) (by decide) (by decide) (by decide) ?_
  refine b_X12_init_291 (R' := Rm 0) (n0 := 46) hq (by decide) (by decide) (by decide) (by decide) (by decide) (by decide) ?_
  refine b_X12_init_327 (R' := Rm 0) (n0 := 46) hq (by decide) (by decide) (by decide) (by decide) (by decide) (by decide) ?_
  refine b_X12_init_363 (R' := Rm 0) (n0 := 46) hq (by decide) (by decide) (by decide) (by decide) (by decide) (by decide) ?_
  refine b_X12_init_399 (R' := Rm 0) h0 ?_
  have w : WX (sz μ) (al μ (1, 46)) (wi (wi (wi (wi (wi (wi (wi (wi (wi (wi (wi (wi (wi (wi (wi (wi (wi (wi (wi (wi (wi (wi (wi (wi (wi (wi (wi (wi (wi (wi (wi (wi (wi (wi (wi (wi (wi (wi (wi (wi (wi (wi (wi (wi (wi (wi (al μ (1, 46)) (sz μ) 0 97) (sz μ) 1 116) (sz μ) 2 114) (sz μ) 3 101) (sz μ) 4 97) (sz μ) 5 99) (sz μ) 6 104) (sz μ) 7 110) (sz μ) 8 101) (sz μ) 9 120) (sz μ) 10 116) (sz μ) 11 115) (sz μ) 12 97) (sz μ) 13 109) (sz μ) 14 101) (sz μ) 15 109) (sz μ) 16 97) (sz μ) 17 110) (sz μ) 18 121) (sz μ) 19 110) (sz μ) 20 111) (sz μ) 21 116) (sz μ) 22 97) (sz μ) 23 110) (sz μ) 24 100) (sz μ) 25 111) (sz μ) 26 114) (sz μ) 27 110) (sz μ) 28 111) (sz μ) 29 100) (sz μ) 30 101) (sz μ) 31 97) (sz μ) 32 115) (sz μ) 33 107) (sz μ) 34 109) (sz μ) 35 97) (sz μ) 36 121) (sz μ) 37 98) (sz μ) 38 101) (sz μ) 39 97) (sz μ) 40 108) (sz μ) 41 108) (sz μ) 42 115) (sz μ) 43 111) (sz μ) 44 109) (sz μ) 45 101) := by repeat (first | exact WX.rf | apply WX.w1)
  have v : ∀ i, i < 46 → iv (wi (wi (wi (wi (wi (wi (wi (wi (wi (wi (wi (wi (wi (wi (wi (wi (wi (wi (wi (wi (wi (wi (wi (wi (wi (wi (wi (wi (wi (wi (wi (wi (wi (wi (wi (wi (wi (wi (wi (wi (wi (wi (wi (wi (wi (wi (al μ (1, 46)) (sz μ) 0 97) (sz μ) 1 116) (sz μ) 2 114) (sz μ) 3 101) (sz μ) 4 97) (sz μ) 5 99) (sz μ) 6 104) (sz μ) 7 110) (sz μ) 8 101) (sz μ) 9 120) (sz μ) 10 116) (sz μ) 11 115) (sz μ) 12 97) (sz μ) 13 109) (sz μ) 14 101) (sz μ) 15 109) (sz μ) 16 97) (sz μ) 17 110) (sz μ) 18 121) (sz μ) 19 110) (sz μ) 20 111) (sz μ) 21 116) (sz μ) 22 97) (sz μ) 23 110) (sz μ) 24 100) (sz μ) 25 111) (sz μ) 26 114) (sz μ) 27 110) (sz μ) 28 111) (sz μ) 29 100) (sz μ) 30 101) (sz μ) 31 97) (sz μ) 32 115) (sz μ) 33 107) (sz μ) 34 109) (sz μ) 35 97) (sz μ) 36 121) (sz μ) 37 98) (sz μ) 38 101) (sz μ) 39 97) (sz μ) 40 108) (sz μ) 41 108) (sz μ) 42 115) (sz μ) 43 111) (sz μ) 44 109) (sz μ) 45 101) (sz μ) i = nI (letN i) := by intro i hi; simp only [iv_wi_s]; rw [iv_al, if_pos rfl]; revert i; decide +kernel
  have t := SG_w (D := D12 a) (a := a) 16 rfl (by omega) w (Or.inl (Or.inr (Or.inl hs)))
  replace v : ∀ i, i < 46 → iv (wr (wi (wi (wi (wi (wi (wi (wi (wi (wi (wi (wi (wi (wi (wi (wi (wi (wi (wi (wi (wi (wi (wi (wi (wi (wi (wi (wi (wi (wi (wi (wi (wi (wi (wi (wi (wi (wi (wi (wi (wi (wi (wi (wi (wi (wi (wi (al μ (1, 46)) (sz μ) 0 97) (sz μ) 1 116) (sz μ) 2 114) (sz μ) 3 101) (sz μ) 4 97) (sz μ) 5 99) (sz μ) 6 104) (sz μ) 7 110) (sz μ) 8 101) (sz μ) 9 120) (sz μ) 10 116) (sz μ) 11 115) (sz μ) 12 97) (sz μ) 13 109) (sz μ) 14 101) (sz μ) 15 109) (sz μ) 16 97) (sz μ) 17 110) (sz μ) 18 121) (sz μ) 19 110) (sz μ) 20 111) (sz μ) 21 116) (sz μ) 22 97) (sz μ) 23 110) (sz μ) 24 100) (sz μ) 25 111) (sz μ) 26 114) (sz μ) 27 110) (sz μ) 28 111) (sz μ) 29 100) (sz μ) 30 101) (sz μ) 31 97) (sz μ) 32 115) (sz μ) 33 107) (sz μ) 34 109) (sz μ) 35 97) (sz μ) 36 121) (sz μ) 37 98) (sz μ) 38 101) (sz μ) 39 97) (sz μ) 40 108) (sz μ) 41 108) (sz μ) 42 115) (sz μ) 43 111) (sz μ) 44 109) (sz μ) 45 101) a 16 (some (sz μ))) (sz μ) i = nI (letN i) := v
  generalize wr (wi (wi (wi (wi (wi (wi (wi (wi (wi (wi (wi (wi (wi (wi (wi (wi (wi (wi (wi (wi (wi (wi (wi (wi (wi (wi (wi (wi (wi (wi (wi (wi (wi (wi (wi (wi (wi (wi (wi (wi (wi (wi (wi (wi (wi (wi (al μ (1, 46)) (sz μ) 0 97) (sz μ) 1 116) (sz μ) 2 114) (sz μ) 3 101) (sz μ) 4 97) (sz μ) 5 99) (sz μ) 6 104) (sz μ) 7 110) (sz μ) 8 101) (sz μ) 9 120) (sz μ) 10 116) (sz μ) 11 115) (sz μ) 12 97) (sz μ) 13 109) (sz μ) 14 101) (sz μ) 15 109) (sz μ) 16 97) (sz μ) 17 110) (sz μ) 18 121) (sz μ) 19 110) (sz μ) 20 111) (sz μ) 21 116) (sz μ) 22 97) (sz μ) 23 110) (sz μ) 24 100) (sz μ) 25 111) (sz μ) 26 114) (sz μ) 27 110) (sz μ) 28 111) (sz μ) 29 100) (sz μ) 30 101) (sz μ) 31 97) (sz μ) 32 115) (sz μ) 33 107) (sz μ) 34 109) (sz μ) 35 97) (sz μ) 36 121) (sz μ) 37 98) (sz μ) 38 101) (sz μ) 39 97) (sz μ) 40 108) (sz μ) 41 108) (sz μ) 42 115) (sz μ) 43 111) (sz μ) 44 109) (sz μ) 45 101) a 16 (some (sz μ)) = m at t v ⊢
  rw [hs] at t v
  exact h _ t.1 t.2.1 ((t.1.1.2.1 a (by omega)).trans hk) t.2.2 v
theorem S12_7 (hk : kd μ a = (0, 12)) (hs : sz μ = a + 7) (h : ∀ m, SG (D12 a) a 17 (a + 7) μ m → sz m = a + 8 → kd m a = (0, 12) → kd m (a + 7) = (1, 36) → G X (RC 1 16 1383) mX12_init 410 [(0, .ref a)] [] m 7 1166 K) : G X (RC 1 16 1383) mX12_init 402 [(0, .ref a)] [] μ 6 1130 K := by
  refine b_X12_init_402 (R' := Rm 0) (Nat.le_of_ble_eq_true rfl) (Nat.le_of_ble_eq_true rfl) ?_
  refine b_X12_init_407 (R' := Rm 0) (by rw [kd_al, if_neg (by omega)]; exact hk) ?_
  obtain ⟨s1, z1, k1⟩ := SG_al (μ := μ) (a := a) (s := a + 7) (q := (1, 36)) 17 (D12 a) hs (by omega)
  exact h _ s1 z1 ((s1.1.2.1 a (by omega)).trans hk) k1
theorem S12_8 (hk : kd μ a = (0, 12)) (hs : sz μ = a + 8) (h : ∀ m, SG (D12 a) a 18 (a + 8) μ m → sz m = a + 9 → kd m a = (0, 12) → kd m (a + 8) = (1, 3) → G X (RC 1 16 1383) mX12_init 417 [(0, .ref a)] [] m 8 1169 K) : G X (RC 1 16 1383) mX12_init 410 [(0, .ref a)] [] μ 7 1166 K := by
  refine b_X12_init_410 (R' := Rm 0) (Nat.le_of_ble_eq_true rfl) (Nat.le_of_ble_eq_true rfl) ?_
  refine b_X12_init_414 (R' := Rm 0) (by rw [kd_al, if_neg (by omega)]; exact hk) ?_
  obtain ⟨s1, z1, k1⟩ := SG_al (μ := μ) (a := a) (s := a + 8) (q := (1, 3)) 18 (D12 a) hs (by omega)
  exact h _ s1 z1 ((s1.1.2.1 a (by omega)).trans hk) k1
theorem S12_9 (hk : kd μ a = (0, 12)) (hs : sz μ = a + 9) (h : ∀ m, SG (D12 a) a 19 (a + 9) μ m → sz m = a + 10 → kd m a = (0, 12) → kd m (a + 9) = (1, 13) → G X (RC 1 16 1383) mX12_init 425 [(0, .ref a)] [] m 9 1182 K) : G X (RC 1 16 1383) mX12_init 417 [(0, .ref a)] [] μ 8 1169 K := by
  refine b_X12_init_417 (R' := Rm 0) (Nat.le_of_ble_eq_true rfl) (Nat.le_of_ble_eq_true rfl) ?_
  refine b_X12_init_422 (R' := Rm 0) (by rw [kd_al, if_neg (by omega)]; exact hk) ?_
  obtain ⟨s1, z1, k1⟩ := SG_al (μ := μ) (a := a) (s := a + 9) (q := (1, 13)) 19 (D12 a) hs (by omega)
  exact h _ s1 z1 ((s1.1.2.1 a (by omega)).trans hk) k1
theorem S12_10 (hk : kd μ a = (0, 12)) (hs : sz μ = a + 10) (h : ∀ m, SG (D12 a) a 20 (a + 10) μ m → sz m = a + 11 → kd m a = (0, 12) → kd m (a + 10) = (1, 6) → G X (RC 1 16 1383) mX12_init 433 [(0, .ref a)] [] m 10 1188 K) : G X (RC 1 16 1383) mX12_init 425 [(0, .ref a)] [] μ 9 1182 K := by
  refine b_X12_init_425 (R' := Rm 0) (Nat.le_of_ble_eq_true rfl) (Nat.le_of_ble_eq_true rfl) ?_
  refine b_X12_init_430 (R' := Rm 0) (by rw [kd_al, if_neg (by omega)]; exact hk) ?_
  obtain ⟨s1, z1, k1⟩ := SG_al (μ := μ) (a := a) (s := a + 10) (q := (1, 6)) 20 (D12 a) hs (by omega)
  exact h _ s1 z1 ((s1.1.2.1 a (by omega)).trans hk) k1
theorem S12_11 (hk : kd μ a = (0, 12)) (hs : sz μ = a + 11) (h : ∀ m, SG (D12 a) a 21 (a + 11) μ m → sz m = a + 12 → kd m a = (0, 12) → kd m (a + 11) = (1, 18) → G X (RC 1 16 1383) mX12_init 441 [(0, .ref a)] [] m 11 1206 K) : G X (RC 1 16 1383) mX12_init 433 [(0, .ref a)] [] μ 10 1188 K := by
  refine b_X12_init_433 (R' := Rm 0) (Nat.le_of_ble_eq_true rfl) (Nat.le_of_ble_eq_true rfl) ?_
  refine b_X12_init_438 (R' := Rm 0) (by rw [kd_al, if_neg (by omega)]; exact hk) ?_
  obtain ⟨s1, z1, k1⟩ := SG_al (μ := μ) (a := a) (s := a + 11) (q := (1, 18)) 21 (D12 a) hs (by omega)
  exact h _ s1 z1 ((s1.1.2.1 a (by omega)).trans hk) k1
theorem S12_12 (hk : kd μ a = (0, 12)) (hs : sz μ = a + 12) (h : ∀ m, SG (D12 a) a 23 (a + 12) μ m → sz m = a + 13 → kd m a = (0, 12) → kd m (a + 12) = (3, 2) → G X (RC 1 16 1383) mX12_init 456 [(0, .ref a)] [] m 12 1208 K) : G X (RC 1 16 1383) mX12_init 441 [(0, .ref a)] [] μ 11 1206 K := by
  refine b_X12_init_441 (R' := Rm 0) (Nat.le_of_ble_eq_true rfl) (Nat.le_of_ble_eq_true rfl) ?_
  have hq : kd (al μ (3, 2)) (sz μ) = (3, 2) := by rw [kd_al, if_pos rfl]
  have h0 : kd (al μ (3, 2)) a = (0, 12) := by rw [kd_al, if_neg (by omega)]; exact hk
  refine b_X12_init_445 (R' := Rm 0) (n0 := 2) hq (by decide) (by decide) h0 ?_
  have w : WX (sz μ) (al μ (3, 2)) (wi (wi (al μ (3, 2)) (sz μ) 0 0) (sz μ) 1 0) := by repeat (first | exact WX.rf | apply WX.w1)
  have v : ∀ i, iv (wi (wi (al μ (3, 2)) (sz μ) 0 0) (sz μ) 1 0) (sz μ) i = 0 := by intro i; simp only [iv_wi_s]; rw [iv_al, if_pos rfl]; simp
  have t := SG_w (D := D12 a) (a := a) 23 rfl (by omega) w (Or.inr v)
  generalize wr (wi (wi (al μ (3, 2)) (sz μ) 0 0) (sz μ) 1 0) a 23 (some (sz μ)) = m at t ⊢
  rw [hs] at t
  exact h _ t.1 t.2.1 ((t.1.1.2.1 a (by omega)).trans hk) t.2.2
theorem S12_13 (hk : kd μ a = (0, 12)) (hs : sz μ = a + 13) (h : ∀ m, SG (D12 a) a 24 (a + 13) μ m → sz m = a + 14 → kd m a = (0, 12) → kd m (a + 13) = (1, 7) → G X (RC 1 16 1383) mX12_init 464 [(0, .ref a)] [] m 13 1215 K) : G X (RC 1 16 1383) mX12_init 456 [(0, .ref a)] [] μ 12 1208 K := by
  refine b_X12_init_456 (R' := Rm 0) (Nat.le_of_ble_eq_true rfl) (Nat.le_of_ble_eq_true rfl) ?_
  refine b_X12_init_461 (R' := Rm 0) (by rw [kd_al, if_neg (by omega)]; exact hk) ?_
  obtain ⟨s1, z1, k1⟩ := SG_al (μ := μ) (a := a) (s := a + 13) (q := (1, 7)) 24 (D12 a) hs (by omega)
  exact h _ s1 z1 ((s1.1.2.1 a (by omega)).trans hk) k1
theorem S12_14 (hk : kd μ a = (0, 12)) (hs : sz μ = a + 14) (h : ∀ m, SG (D12 a) a 25 (a + 14) μ m → sz m = a + 15 → kd m a = (0, 12) → kd m (a + 14) = (1, 4) → (∀ i, i < 4 → iv m (a + 14) i = -4) → G X (RC 1 16 1383) mX12_init 491 [(0, .ref a)] [] m 14 1219 K) : G X (RC 1 16 1383) mX12_init 464 [(0, .ref a)] [] μ 13 1215 K := by
  refine b_X12_init_464 (R' := Rm 0) (Nat.le_of_ble_eq_true rfl) (Nat.le_of_ble_eq_true rfl) ?_
  have hq : kd (al μ (1, 4)) (sz μ) = (1, 4) := by rw [kd_al, if_pos rfl]
  have h0 : kd (al μ (1, 4)) a = (0, 12) := by rw [kd_al, if_neg (by omega)]; exact hk
  refine b_X12_init_468 (R' := Rm 0) (n0 := 4) hq (by decide) (by decide) (by decide) (by decide) h0 ?_
  have w : WX (sz μ) (al μ (1, 4)) (wi (wi (wi (wi (al μ (1, 4)) (sz μ) 0 (-4)) (sz μ) 1 (-4)) (sz μ) 2 (-4)) (sz μ) 3 (-4)) := by repeat (first | exact WX.rf | apply WX.w1)
  have v : ∀ i, i < 4 → iv (wi (wi (wi (wi (al μ (1, 4)) (sz μ) 0 (-4)) (sz μ) 1 (-4)) (sz μ) 2 (-4)) (sz μ) 3 (-4)) (sz μ) i = -4 := by intro i hi; simp only [iv_wi_s]; rw [iv_al, if_pos rfl]; revert i; decide +kernel
  have t := SG_w (D := D12 a) (a := a) 25 rfl (by omega) w (Or.inl (Or.inr (Or.inr hs)))
  replace v : ∀ i, i < 4 → iv (wr (wi (wi (wi (wi (al μ (1, 4)) (sz μ) 0 (-4)) (sz μ) 1 (-4)) (sz μ) 2 (-4)) (sz μ) 3 (-4)) a 25 (some (sz μ))) (sz μ) i = -4 := v
  generalize wr (wi (wi (wi (wi (al μ (1, 4)) (sz μ) 0 (-4)) (sz μ) 1 (-4)) (sz μ) 2 (-4)) (sz μ) 3 (-4)) a 25 (some (sz μ)) = m at t v ⊢
  rw [hs] at t v
  exact h _ t.1 t.2.1 ((t.1.1.2.1 a (by omega)).trans hk) t.2.2 v
theorem S12_15 (hk : kd μ a = (0, 12)) (hs : sz μ = a + 15) (h : ∀ m, SG (D12 a) a 26 (a + 15) μ m → sz m = a + 16 → kd m a = (0, 12) → kd m (a + 15) = (1, 4) → G X (RC 1 16 1383) mX12_init 514 [(0, .ref a)] [] m 15 1223 K) : G X (RC 1 16 1383) mX12_init 491 [(0, .ref a)] [] μ 14 1219 K := by
  refine b_X12_init_491 (R' := Rm 0) (Nat.le_of_ble_eq_true rfl) (Nat.le_of_ble_eq_true rfl) ?_
  have hq : kd (al μ (1, 4)) (sz μ) = (1, 4) := by rw [kd_al, if_pos rfl]
  have h0 : kd (al μ (1, 4)) a = (0, 12) := by rw [kd_al, if_neg (by omega)]; exact hk
  refine b_X12_init_495 (R' := Rm 0) (n0 := 4) hq (by decide) (by decide) ?_
  refine b_X12_init_503 (R' := Rm 0) (n0 := 4) hq (by decide) (by decide) h0 ?_
  have w : WX (sz μ) (al μ (1, 4)) (wi (wi (wi (wi (al μ (1, 4)) (sz μ) 0 0) (sz μ) 1 0) (sz μ) 2 0) (sz μ) 3 0) := by repeat (first | exact WX.rf | apply WX.w1)
  have v : ∀ i, iv (wi (wi (wi (wi (al μ (1, 4)) (sz μ) 0 0) (sz μ) 1 0) (sz μ) 2 0) (sz μ) 3 0) (sz μ) i = 0 := by intro i; simp only [iv_wi_s]; rw [iv_al, if_pos rfl]; simp
  have t := SG_w (D := D12 a) (a := a) 26 rfl (by omega) w (Or.inr v)
  generalize wr (wi (wi (wi (wi (al μ (1, 4)) (sz μ) 0 0) (sz μ) 1 0) (sz μ) 2 0) (sz μ) 3 0) a 26 (some (sz μ)) = m at t ⊢
  rw [hs] at t
  exact h _ t.1 t.2.1 ((t.1.1.2.1 a (by omega)).trans hk) t.2.2
theorem S12_16 (hk : kd μ a = (0, 12)) (hs : sz μ = a + 16) (h : ∀ m, SG (D12 a) a 27 (a + 16) μ m → sz m = a + 17 → kd m a = (0, 12) → kd m (a + 16) = (1, 160) → G X (RC 1 16 1383) mX12_init 523 [] [] m 16 1383 K) : G X (RC 1 16 1383) mX12_init 514 [(0, .ref a)] [] μ 15 1223 K := by
  refine b_X12_init_514 (R' := Rm 0) (Nat.le_of_ble_eq_true rfl) (Nat.le_of_ble_eq_true rfl) ?_
  refine b_X12_init_520 (R' := Rm 0) (by rw [kd_al, if_neg (by omega)]; exact hk) ?_
  obtain ⟨s1, z1, k1⟩ := SG_al (μ := μ) (a := a) (s := a + 16) (q := (1, 160)) 27 (D12 a) hs (by omega)
  exact h _ s1 z1 ((s1.1.2.1 a (by omega)).trans hk) k1
theorem lt2_q {m : mM} {b c : Nat} (h : sz m = a + c) (h2 : b < c) : a + b < sz m := by omega
theorem MI_0 {f : Nat → Nat → Int32} (h0 : ∀ j, f a j = 0) (hz : ∀ z j, a + 1 ≤ z → z < a + 17 → ¬ D12 a z → f z j = 0) (h5 : ∀ i, i < 14 → f (a + 5) i = nI (endN i)) (h6 : ∀ i, i < 46 → f (a + 6) i = nI (letN i)) (h14 : ∀ i, i < 4 → f (a + 14) i = -4) : MI f a σ0 := by
  have z : ∀ b j, 1 ≤ b → b < 17 → b ≠ 5 → b ≠ 6 → b ≠ 14 → f (a + b) j = 0 := fun b j h1 h2 h3 h4 h5 => hz (a + b) j (by omega) (by omega) (by unfold D12; omega)
  refine ⟨fun k hk => z 1 k (by decide) (by decide) (by decide) (by decide) (by decide), fun k hk => ⟨fun j hj => ?_, z 12 k (by decide) (by decide) (by decide) (by decide) (by decide)⟩, ⟨h0 2, fun k hk => z 2 k (by decide) (by decide) (by decide) (by decide) (by decide)⟩, ⟨h0 6, fun i hi => absurd hi (Nat.not_lt_zero i)⟩, ⟨h0 7, h0 28⟩, fun k hk => ⟨h14 k hk, fun h => absurd h (Nat.lt_irrefl 3)⟩, fun i hi => z 16 i (by decide) (by decide) (by decide) (by decide) (by decide), h5, h6⟩
  rw [z 1 _ (by decide) (by decide) (by decide) (by decide) (by decide)]
  show (0 : Int32) = nI (if 1 + k = 7 then 3 else 0)
  rw [if_neg (by omega)]; rfl
theorem N_X12 (hk : kd μ a = (0, 12)) (hs : sz μ = a + 1) (h0 : ∀ j, iv μ a j = 0) (hK : ∀ ν, EX (· = a) (D12 a) μ ν → sz ν = a + 17 → WF12 ν a → MI (iv ν) a σ0 → K none ν) : Ct X (RC 1 16 1383) mX12_init [.ref a] μ K := by
  refine Ct_of rfl (Nat.le_of_ble_eq_true rfl) ?_
  refine S12_1 hk hs fun m1 s1 z1 h1 k1 => ?_
  refine S12_2 h1 z1 fun m2 s2 z2 h2 k2 => ?_
  refine S12_3 h2 z2 fun m3 s3 z3 h3 k3 => ?_
  refine S12_4 h3 z3 fun m4 s4 z4 h4 k4 => ?_
  refine S12_5 h4 z4 fun m5 s5 z5 h5 k5 v5 => ?_
  refine S12_6 h5 z5 fun m6 s6 z6 h6 k6 v6 => ?_
  refine S12_7 h6 z6 fun m7 s7 z7 h7 k7 => ?_
  refine S12_8 h7 z7 fun m8 s8 z8 h8 k8 => ?_
  refine S12_9 h8 z8 fun m9 s9 z9 h9 k9 => ?_
  refine S12_10 h9 z9 fun m10 s10 z10 h10 k10 => ?_
  refine S12_11 h10 z10 fun m11 s11 z11 h11 k11 => ?_
  refine S12_12 h11 z11 fun m12 s12 z12 h12 k12 => ?_
  refine S12_13 h12 z12 fun m13 s13 z13 h13 k13 => ?_
  refine S12_14 h13 z13 fun m14 s14 z14 h14 k14 v14 => ?_
  refine S12_15 h14 z14 fun m15 s15 z15 h15 k15 => ?_
  refine S12_16 h15 z15 fun m16 s16 z16 h16 k16 => ?_
  have o15 := s16.1
  have o14 := s15.1.tr o15
  have o13 := s14.1.tr o14
  have o12 := s13.1.tr o13
  have o11 := s12.1.tr o12
  have o10 := s11.1.tr o11
  have o9 := s10.1.tr o10
  have o8 := s9.1.tr o9
  have o7 := s8.1.tr o8
  have o6 := s7.1.tr o7
  have o5 := s6.1.tr o6
  have o4 := s5.1.tr o5
  have o3 := s4.1.tr o4
  have o2 := s3.1.tr o3
  have o1 := s2.1.tr o2
  have oo := s1.1.tr o1
  refine b_X12_init_523 (R' := Rm 0) (hK _ oo z16 ⟨h16, by rw [s16.2, if_neg (by decide), s15.2, if_neg (by decide), s14.2, if_neg (by decide), s13.2, if_neg (by decide), s12.2, if_neg (by decide), s11.2, if_neg (by decide), s10.2, if_neg (by decide), s9.2, if_neg (by decide), s8.2, if_neg (by decide), s7.2, if_neg (by decide), s6.2, if_neg (by decide), s5.2, if_neg (by decide), s4.2, if_neg (by decide), s3.2, if_neg (by decide), s2.2, if_neg (by decide), s1.2, if_pos rfl], (o1.2.1 _ (lt2_q z1 (by decide))).trans k1, by rw [s16.2, if_neg (by decide), s15.2, if_neg (by decide), s14.2, if_neg (by decide), s13.2, if_neg (by decide), s12.2, if_neg (by decide), s11.2, if_neg (by decide), s10.2, if_neg (by decide), s9.2, if_neg (by decide), s8.2, if_neg (by decide), s7.2, if_neg (by decide), s6.2, if_neg (by decide), s5.2, if_neg (by decide), s4.2, if_neg (by decide), s3.2, if_neg (by decide), s2.2, if_pos rfl], (o2.2.1 _ (lt2_q z2 (by decide))).trans k2, by rw [s16.2, if_neg (by decide), s15.2, if_neg (by decide), s14.2, if_neg (by decide), s13.2, if_neg (by decide), s12.2, if_neg (by decide), s11.2, if_neg (by decide), s10.2, if_neg (by decide), s9.2, if_neg (by decide), s8.2, if_neg (by decide), s7.2, if_neg (by decide), s6.2, if_neg (by decide), s5.2, if_neg (by decide), s4.2, if_neg (by decide), s3.2, if_pos rfl], (o3.2.1 _ (lt2_q z3 (by decide))).trans k3, by rw [s16.2, if_neg (by decide), s15.2, if_neg (by decide), s14.2, if_neg (by decide), s13.2, if_neg (by decide), s12.2, if_neg (by decide), s11.2, if_neg (by decide), s10.2, if_neg (by decide), s9.2, if_neg (by decide), s8.2, if_neg (by decide), s7.2, if_neg (by decide), s6.2, if_neg (by decide), s5.2, if_neg (by decide), s4.2, if_pos rfl], (o4.2.1 _ (lt2_q z4 (by decide))).trans k4, by rw [s16.2, if_neg (by decide), s15.2, if_neg (by decide), s14.2, if_neg (by decide), s13.2, if_neg (by decide), s12.2, if_neg (by decide), s11.2, if_neg (by decide), s10.2, if_neg (by decide), s9.2, if_neg (by decide), s8.2, if_neg (by decide), s7.2, if_neg (by decide), s6.2, if_neg (by decide), s5.2, if_pos rfl], (o5.2.1 _ (lt2_q z5 (by decide))).trans k5, by rw [s16.2, if_neg (by decide), s15.2, if_neg (by decide), s14.2, if_neg (by decide), s13.2, if_neg (by decide), s12.2, if_neg (by decide), s11.2, if_neg (by decide), s10.2, if_neg (by decide), s9.2, if_neg (by decide), s8.2, if_neg (by decide), s7.2, if_neg (by decide), s6.2, if_pos rfl], (o6.2.1 _ (lt2_q z6 (by decide))).trans k6, by rw [s16.2, if_neg (by decide), s15.2, if_neg (by decide), s14.2, if_neg (by decide), s13.2, if_neg (by decide), s12.2, if_neg (by decide), s11.2, if_neg (by decide), s10.2, if_neg (by decide), s9.2, if_neg (by decide), s8.2, if_neg (by decide), s7.2, if_pos rfl], (o7.2.1 _ (lt2_q z7 (by decide))).trans k7, by rw [s16.2, if_neg (by decide), s15.2, if_neg (by decide), s14.2, if_neg (by decide), s13.2, if_neg (by decide), s12.2, if_neg (by decide), s11.2, if_neg (by decide), s10.2, if_neg (by decide), s9.2, if_neg (by decide), s8.2, if_pos rfl], (o8.2.1 _ (lt2_q z8 (by decide))).trans k8, by rw [s16.2, if_neg (by decide), s15.2, if_neg (by decide), s14.2, if_neg (by decide), s13.2, if_neg (by decide), s12.2, if_neg (by decide), s11.2, if_neg (by decide), s10.2, if_neg (by decide), s9.2, if_pos rfl], (o9.2.1 _ (lt2_q z9 (by decide))).trans k9, by rw [s16.2, if_neg (by decide), s15.2, if_neg (by decide), s14.2, if_neg (by decide), s13.2, if_neg (by decide), s12.2, if_neg (by decide), s11.2, if_neg (by decide), s10.2, if_pos rfl], (o10.2.1 _ (lt2_q z10 (by decide))).trans k10, by rw [s16.2, if_neg (by decide), s15.2, if_neg (by decide), s14.2, if_neg (by decide), s13.2, if_neg (by decide), s12.2, if_neg (by decide), s11.2, if_pos rfl], (o11.2.1 _ (lt2_q z11 (by decide))).trans k11, by rw [s16.2, if_neg (by decide), s15.2, if_neg (by decide), s14.2, if_neg (by decide), s13.2, if_neg (by decide), s12.2, if_pos rfl], (o12.2.1 _ (lt2_q z12 (by decide))).trans k12, by rw [s16.2, if_neg (by decide), s15.2, if_neg (by decide), s14.2, if_neg (by decide), s13.2, if_pos rfl], (o13.2.1 _ (lt2_q z13 (by decide))).trans k13, by rw [s16.2, if_neg (by decide), s15.2, if_neg (by decide), s14.2, if_pos rfl], (o14.2.1 _ (lt2_q z14 (by decide))).trans k14, by rw [s16.2, if_neg (by decide), s15.2, if_pos rfl], (o15.2.1 _ (lt2_q z15 (by decide))).trans k15, by rw [s16.2, if_pos rfl], k16⟩ (MI_0 (fun j => ?_) (fun z j q1 q2 q3 => oo.2.2.2.2 z j (by rw [hs]; exact q1) (by rw [z16]; exact q2) q3) (fun i hi => (o5.2.2.2.1 _ _ (lt2_q z5 (by decide))).trans (v5 i hi)) (fun i hi => (o6.2.2.2.1 _ _ (lt2_q z6 (by decide))).trans (v6 i hi)) (fun i hi => (o14.2.2.2.1 _ _ (lt2_q z14 (by decide))).trans (v14 i hi)))) rfl rfl
  exact (oo.2.2.2.1 a j (by rw [hs]; exact Nat.lt_succ_self a)).trans (h0 j)
theorem ok_0 : OKs σ0 := by
  refine ⟨?_, fun k hk => ⟨?_, ?_⟩, ⟨Nat.zero_le _, fun k hk => absurd hk (Nat.not_lt_zero k)⟩, ⟨Nat.zero_le _, fun k hk => absurd hk (Nat.not_lt_zero k)⟩, fun k _ => ⟨Nat.le_refl _, Nat.zero_le _⟩, fun i _ => Nat.two_pow_pos 32⟩
  · exact ⟨Nat.zero_le _, fun _ _ => Nat.zero_le _, fun _ _ _ _ => Nat.zero_le _, fun _ _ _ _ => Nat.zero_le _, fun _ _ _ => ⟨rfl, fun _ _ => rfl, fun _ _ => ⟨rfl, rfl⟩⟩⟩
  · have e : σ0 (1 + k) = fun _ => 0 := by funext j; show (if 1 + k = 7 then 3 else 0) = 0; rw [if_neg (by omega)]
    rw [e]
    exact ⟨Nat.zero_le _, fun _ _ => Nat.zero_le _, fun _ _ _ _ => Nat.zero_le _, fun _ _ _ _ => Nat.zero_le _, fun _ _ _ => ⟨rfl, fun _ _ => rfl, fun _ _ => ⟨rfl, rfl⟩⟩⟩
  · exact Nat.zero_le _
theorem CI_0 {f : Nat → Nat → Int32} (hz : ∀ z j, a ≤ z → z < a + 260 → f z j = 0) : CI f a (a + 62) σ0 := by
  have sh : ∀ b, 1 ≤ b → b < 230 → Sh f (a + b) (fun _ => 0) := fun b h1 h2 => ⟨hz _ _ (by omega) (by omega), fun i hi => hz _ _ (by omega) (by omega), fun v i hv hi => hz _ _ (by omega) (by omega), fun i j hi hj => hz _ _ (by omega) (by omega)⟩
  refine ⟨sh 63 (by decide) (by decide), fun k hk => ⟨?_, hz _ _ (by omega) (by omega)⟩, ⟨hz _ _ (by omega) (by omega), fun k hk => absurd hk (Nat.not_lt_zero k)⟩, ⟨hz _ _ (by omega) (by omega), fun k hk => absurd hk (Nat.not_lt_zero k)⟩, ⟨hz _ _ (by omega) (by omega), hz _ _ (by omega) (by omega)⟩, fun k hk => ⟨hz _ _ (by omega) (by omega), fun h => absurd h (Nat.lt_irrefl 3), fun i hi => hz _ _ (by omega) (by omega)⟩⟩
  have e : σ0 (1 + k) = fun _ => 0 := by funext j; show (if 1 + k = 7 then 3 else 0) = 0; rw [if_neg (by omega)]
  rw [e, Nat.add_assoc]
  exact sh _ (by omega) (by omega)
end P73
