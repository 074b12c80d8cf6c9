section P71
variable {X : cX} {μ : mM} {K : Option Value → mM → Prop} {a : Nat}
theorem N_X0 (hk : kd μ a = (0, 0)) (hs : sz μ = a + 1) (hK : ∀ ν, EX (· = a) D0 μ ν → sz ν = a + 3 → (WF0 ν a) → K none ν) : Ct X (RC 1 2 12) mX0_init [.ref a] μ K := by
  refine Ct_of rfl (Nat.le_of_ble_eq_true rfl) ?_
  refine b_X0_init_0 (R' := Rm 0) ⟨Nat.le_of_ble_eq_true rfl, Nat.le_of_ble_eq_true rfl, Nat.le_of_ble_eq_true rfl, Nat.le_of_ble_eq_true rfl⟩ (Nat.le_of_ble_eq_true rfl) (Nat.le_of_ble_eq_true rfl) ?_
  refine b_X0_init_9 (R' := Rm 0) (by rw [kd_al, if_neg (by omega)]; exact hk) ?_
  have w1 := SG_al (μ := μ) (a := a) (s := a + 1) (q := (1, 6)) 0 D0 hs (by omega)
  generalize wr (al μ (1, 6)) a 0 (some (sz μ)) = m1 at w1 ⊢
  obtain ⟨s1, z1, k1⟩ := w1
  replace z1 : sz m1 = a + 2 := by omega
  have h1 : kd m1 a = (0, 0) := (s1.1.2.1 a (by omega)).trans hk
  refine b_X0_init_12 (R' := Rm 0) (Nat.le_of_ble_eq_true rfl) (Nat.le_of_ble_eq_true rfl) ?_
  refine b_X0_init_17 (R' := Rm 0) (by rw [kd_al, if_neg (by omega)]; exact h1) ?_
  have w2 := SG_al (μ := m1) (a := a) (s := a + 2) (q := (1, 6)) 1 D0 z1 (by omega)
  generalize wr (al m1 (1, 6)) a 1 (some (sz m1)) = m2 at w2 ⊢
  obtain ⟨s2, z2, k2⟩ := w2
  replace z2 : sz m2 = a + 3 := by omega
  have h2 : kd m2 a = (0, 0) := (s2.1.2.1 a (by omega)).trans h1
  have o1 := s2.1
  have oo := s1.1.tr o1
  exact b_X0_init_20 (R' := Rm 0) (hK _ oo (by omega) ⟨h2, by rw [s2.2, if_neg (by decide), s1.2, if_pos rfl], (o1.2.1 _ (by omega)).trans k1, by rw [s2.2, if_pos rfl], k2⟩) rfl rfl
theorem N_X1 (hk : kd μ a = (0, 1)) (hs : sz μ = a + 1) (hK : ∀ ν, EX (· = a) D0 μ ν → sz ν = a + 2 → (WF1 ν a) → K none ν) : Ct X (RC 1 1 6) mX1_init [.ref a] μ K := by
  refine Ct_of rfl (Nat.le_of_ble_eq_true rfl) ?_
  refine b_X1_init_0 (R' := Rm 0) ⟨Nat.le_of_ble_eq_true rfl, Nat.le_of_ble_eq_true rfl, Nat.le_of_ble_eq_true rfl, Nat.le_of_ble_eq_true rfl⟩ (Nat.le_of_ble_eq_true rfl) (Nat.le_of_ble_eq_true rfl) ?_
  refine b_X1_init_9 (R' := Rm 0) (by rw [kd_al, if_neg (by omega)]; exact hk) ?_
  have w1 := SG_al (μ := μ) (a := a) (s := a + 1) (q := (1, 6)) 0 D0 hs (by omega)
  generalize wr (al μ (1, 6)) a 0 (some (sz μ)) = m1 at w1 ⊢
  obtain ⟨s1, z1, k1⟩ := w1
  replace z1 : sz m1 = a + 2 := by omega
  have h1 : kd m1 a = (0, 1) := (s1.1.2.1 a (by omega)).trans hk
  have oo := s1.1
  exact b_X1_init_12 (R' := Rm 0) (hK _ oo (by omega) ⟨h1, by rw [s1.2, if_pos rfl], k1⟩) rfl rfl
theorem N_X5 (hk : kd μ a = (0, 5)) (hs : sz μ = a + 1) (hK : ∀ ν, EX (· = a) D0 μ ν → sz ν = a + 24 → (WF5 ν a) → K none ν) : Ct X (RC 1 23 132) mX5_init [.ref a] μ K := by
  refine Ct_of rfl (Nat.le_of_ble_eq_true rfl) ?_
  refine b_X5_init_0 (R' := Rm 0) ⟨Nat.le_of_ble_eq_true rfl, Nat.le_of_ble_eq_true rfl, Nat.le_of_ble_eq_true rfl, Nat.le_of_ble_eq_true rfl⟩ (Nat.le_of_ble_eq_true rfl) (Nat.le_of_ble_eq_true rfl) ?_
  refine b_X5_init_9 (R' := Rm 0) (by rw [kd_al, if_neg (by omega)]; exact hk) ?_
  have w1 := SG_al (μ := μ) (a := a) (s := a + 1) (q := (3, 6)) 1 D0 hs (by omega)
  generalize wr (al μ (3, 6)) a 1 (some (sz μ)) = m1 at w1 ⊢
  obtain ⟨s1, z1, k1⟩ := w1
  replace z1 : sz m1 = a + 2 := by omega
  have h1 : kd m1 a = (0, 5) := (s1.1.2.1 a (by omega)).trans hk
  refine b_X5_init_12 (R' := Rm 0) (Nat.le_of_ble_eq_true rfl) (Nat.le_of_ble_eq_true rfl) ?_
  refine b_X5_init_20 (R' := Rm 0) (by rw [kd_mna, if_neg (by omega), if_neg (by omega)]; exact h1) ?_
  have w2 := SG_mna (μ := m1) (a := a) (s := a + 2) (N := 3) (K := 6) 2 D0 z1 (by omega)
  generalize wr (mna m1 3 6) a 2 (some (sz m1)) = m2 at w2 ⊢
  obtain ⟨s2, z2, k2, r2, c2⟩ := w2
  replace z2 : sz m2 = a + 6 := by omega
  have h2 : kd m2 a = (0, 5) := (s2.1.2.1 a (by omega)).trans h1
  refine b_X5_init_23 (R' := Rm 0) (Nat.le_of_ble_eq_true rfl) (Nat.le_of_ble_eq_true rfl) ?_
  refine b_X5_init_32 (R' := Rm 0) (by rw [kd_mna, if_neg (by omega), if_neg (by omega)]; exact h2) ?_
  have w3 := SG_mna (μ := m2) (a := a) (s := a + 6) (N := 6) (K := 6) 3 D0 z2 (by omega)
  generalize wr (mna m2 6 6) a 3 (some (sz m2)) = m3 at w3 ⊢
  obtain ⟨s3, z3, k3, r3, c3⟩ := w3
  replace z3 : sz m3 = a + 13 := by omega
  have h3 : kd m3 a = (0, 5) := (s3.1.2.1 a (by omega)).trans h2
  refine b_X5_init_35 (R' := Rm 0) (Nat.le_of_ble_eq_true rfl) (Nat.le_of_ble_eq_true rfl) ?_
  refine b_X5_init_44 (R' := Rm 0) (by rw [kd_mna, if_neg (by omega), if_neg (by omega)]; exact h3) ?_
  have w4 := SG_mna (μ := m3) (a := a) (s := a + 13) (N := 6) (K := 6) 4 D0 z3 (by omega)
  generalize wr (mna m3 6 6) a 4 (some (sz m3)) = m4 at w4 ⊢
  obtain ⟨s4, z4, k4, r4, c4⟩ := w4
  replace z4 : sz m4 = a + 20 := by omega
  have h4 : kd m4 a = (0, 5) := (s4.1.2.1 a (by omega)).trans h3
  refine b_X5_init_47 (R' := Rm 0) (Nat.le_of_ble_eq_true rfl) (Nat.le_of_ble_eq_true rfl) ?_
  refine b_X5_init_55 (R' := Rm 0) (by rw [kd_mna, if_neg (by omega), if_neg (by omega)]; exact h4) ?_
  have w5 := SG_mna (μ := m4) (a := a) (s := a + 20) (N := 3) (K := 6) 5 D0 z4 (by omega)
  generalize wr (mna m4 3 6) a 5 (some (sz m4)) = m5 at w5 ⊢
  obtain ⟨s5, z5, k5, r5, c5⟩ := w5
  replace z5 : sz m5 = a + 24 := by omega
  have h5 : kd m5 a = (0, 5) := (s5.1.2.1 a (by omega)).trans h4
  have o4 := s5.1
  have o3 := s4.1.tr o4
  have o2 := s3.1.tr o3
  have o1 := s2.1.tr o2
  have oo := s1.1.tr o1
  exact b_X5_init_58 (R' := Rm 0) (hK _ oo (by omega) ⟨h5, by rw [s5.2, if_neg (by decide), s4.2, if_neg (by decide), s3.2, if_neg (by decide), s2.2, if_neg (by decide), s1.2, if_pos rfl], (o1.2.1 _ (by omega)).trans k1, by rw [s5.2, if_neg (by decide), s4.2, if_neg (by decide), s3.2, if_neg (by decide), s2.2, if_pos rfl], (o2.2.1 _ (by omega)).trans k2, fun i hi => (o2.2.2.1 _ _ (by omega) (show ¬ _ = a by omega)).trans (r2 i hi), fun i hi => (o2.2.1 _ (by omega)).trans (c2 i hi), by rw [s5.2, if_neg (by decide), s4.2, if_neg (by decide), s3.2, if_pos rfl], (o3.2.1 _ (by omega)).trans k3, fun i hi => (o3.2.2.1 _ _ (by omega) (show ¬ _ = a by omega)).trans (r3 i hi), fun i hi => (o3.2.1 _ (by omega)).trans (c3 i hi), by rw [s5.2, if_neg (by decide), s4.2, if_pos rfl], (o4.2.1 _ (by omega)).trans k4, fun i hi => (o4.2.2.1 _ _ (by omega) (show ¬ _ = a by omega)).trans (r4 i hi), fun i hi => (o4.2.1 _ (by omega)).trans (c4 i hi), by rw [s5.2, if_pos rfl], k5, fun i hi => r5 i hi, fun i hi => c5 i hi⟩) rfl rfl
theorem N_X2 (hk : kd μ a = (0, 2)) (hs : sz μ = a + 1) (hK : ∀ ν, EX (· = a) D0 μ ν → sz ν = a + 26 → (WF2 ν a ∧ WF5 ν (a + 1)) → K none ν) : Ct X (RC 2 25 144) mX2_init [.ref a] μ K := by
  refine Ct_of rfl (Nat.le_of_ble_eq_true rfl) ?_
  refine b_X2_init_0 (R' := Rm 0) ⟨Nat.le_of_ble_eq_true rfl, Nat.le_of_ble_eq_true rfl, Nat.le_of_ble_eq_true rfl, Nat.le_of_ble_eq_true rfl⟩ (Nat.le_of_ble_eq_true rfl) (Nat.le_of_ble_eq_true rfl) ?_
  refine b_X2_init_8 (R' := (RC 1 23 132)) ⟨Nat.le_of_ble_eq_true rfl, Nat.le_of_ble_eq_true rfl, Nat.le_of_ble_eq_true rfl, Nat.le_of_ble_eq_true rfl⟩ (N_X5 (by rw [kd_al, if_pos (by omega)]) (by rw [sz_al]) fun n1 e1 y1 w1 => ?_)
  refine b_X2_init_12 (R' := Rm 0) ((e1.2.1 a (by rw [sz_al]; omega)).trans (by rw [kd_al, if_neg (by omega)]; exact hk)) ?_
  have v1 := SG_sub (a := a) 0 hs (by omega) (by rw [← hs]; exact e1)
  generalize wr n1 a 0 (some (sz μ)) = m1 at v1 ⊢
  rw [hs] at y1 w1
  obtain ⟨s1, x1, z1⟩ := v1
  replace z1 : sz m1 = a + 25 := by omega
  replace w1 : WF5 m1 (a + 1) := w1.ex x1 (by omega) (fun z h1 h2 => show ¬ z = a by omega)
  have h1 : kd m1 a = (0, 2) := (s1.1.2.1 a (by omega)).trans hk
  refine b_X2_init_15 (R' := Rm 0) (Nat.le_of_ble_eq_true rfl) (Nat.le_of_ble_eq_true rfl) ?_
  refine b_X2_init_20 (R' := Rm 0) (by rw [kd_al, if_neg (by omega)]; exact h1) ?_
  have w2 := SG_al (μ := m1) (a := a) (s := a + 25) (q := (1, 6)) 1 D0 z1 (by omega)
  generalize wr (al m1 (1, 6)) a 1 (some (sz m1)) = m2 at w2 ⊢
  obtain ⟨s2, z2, k2⟩ := w2
  replace z2 : sz m2 = a + 26 := by omega
  have h2 : kd m2 a = (0, 2) := (s2.1.2.1 a (by omega)).trans h1
  have o1 := s2.1
  have oo := s1.1.tr o1
  exact b_X2_init_23 (R' := Rm 0) (hK _ oo (by omega) ⟨⟨h2, by rw [s2.2, if_neg (by decide), s1.2, if_pos rfl], by rw [s2.2, if_pos rfl], k2⟩, w1.ex o1 (by omega) (fun z h1 h2 => show ¬ z = a by omega)⟩) rfl rfl
theorem N_X3 (hk : kd μ a = (0, 3)) (hs : sz μ = a + 1) (hK : ∀ ν, EX (· = a) D0 μ ν → sz ν = a + 8 → (WF3 ν a) → K none ν) : Ct X (RC 1 7 57) mX3_init [.ref a] μ K := by
  refine Ct_of rfl (Nat.le_of_ble_eq_true rfl) ?_
  refine b_X3_init_0 (R' := Rm 0) ⟨Nat.le_of_ble_eq_true rfl, Nat.le_of_ble_eq_true rfl, Nat.le_of_ble_eq_true rfl, Nat.le_of_ble_eq_true rfl⟩ (Nat.le_of_ble_eq_true rfl) (Nat.le_of_ble_eq_true rfl) ?_
  refine b_X3_init_8 (R' := Rm 0) (by rw [kd_al, if_neg (by omega)]; exact hk) ?_
  have w1 := SG_al (μ := μ) (a := a) (s := a + 1) (q := (1, 3)) 1 D0 hs (by omega)
  generalize wr (al μ (1, 3)) a 1 (some (sz μ)) = m1 at w1 ⊢
  obtain ⟨s1, z1, k1⟩ := w1
  replace z1 : sz m1 = a + 2 := by omega
  have h1 : kd m1 a = (0, 3) := (s1.1.2.1 a (by omega)).trans hk
  refine b_X3_init_11 (R' := Rm 0) (Nat.le_of_ble_eq_true rfl) (Nat.le_of_ble_eq_true rfl) ?_
  refine b_X3_init_15 (R' := Rm 0) (by rw [kd_al, if_neg (by omega)]; exact h1) ?_
  have w2 := SG_al (μ := m1) (a := a) (s := a + 2) (q := (3, 3)) 2 D0 z1 (by omega)
  generalize wr (al m1 (3, 3)) a 2 (some (sz m1)) = m2 at w2 ⊢
  obtain ⟨s2, z2, k2⟩ := w2
  replace z2 : sz m2 = a + 3 := by omega
  have h2 : kd m2 a = (0, 3) := (s2.1.2.1 a (by omega)).trans h1
  refine b_X3_init_18 (R' := Rm 0) (Nat.le_of_ble_eq_true rfl) (Nat.le_of_ble_eq_true rfl) ?_
  refine b_X3_init_23 (R' := Rm 0) (by rw [kd_al, if_neg (by omega)]; exact h2) ?_
  have w3 := SG_al (μ := m2) (a := a) (s := a + 3) (q := (1, 12)) 4 D0 z2 (by omega)
  generalize wr (al m2 (1, 12)) a 4 (some (sz m2)) = m3 at w3 ⊢
  obtain ⟨s3, z3, k3⟩ := w3
  replace z3 : sz m3 = a + 4 := by omega
  have h3 : kd m3 a = (0, 3) := (s3.1.2.1 a (by omega)).trans h2
  refine b_X3_init_26 (R' := Rm 0) (Nat.le_of_ble_eq_true rfl) (Nat.le_of_ble_eq_true rfl) ?_
  refine b_X3_init_31 (R' := Rm 0) (by rw [kd_al, if_neg (by omega)]; exact h3) ?_
  have w4 := SG_al (μ := m3) (a := a) (s := a + 4) (q := (1, 12)) 5 D0 z3 (by omega)
  generalize wr (al m3 (1, 12)) a 5 (some (sz m3)) = m4 at w4 ⊢
  obtain ⟨s4, z4, k4⟩ := w4
  replace z4 : sz m4 = a + 5 := by omega
  have h4 : kd m4 a = (0, 3) := (s4.1.2.1 a (by omega)).trans h3
  refine b_X3_init_34 (R' := Rm 0) (Nat.le_of_ble_eq_true rfl) (Nat.le_of_ble_eq_true rfl) ?_
  refine b_X3_init_39 (R' := Rm 0) (by rw [kd_al, if_neg (by omega)]; exact h4) ?_
  have w5 := SG_al (μ := m4) (a := a) (s := a + 5) (q := (1, 12)) 6 D0 z4 (by omega)
  generalize wr (al m4 (1, 12)) a 6 (some (sz m4)) = m5 at w5 ⊢
  obtain ⟨s5, z5, k5⟩ := w5
  replace z5 : sz m5 = a + 6 := by omega
  have h5 : kd m5 a = (0, 3) := (s5.1.2.1 a (by omega)).trans h4
  refine b_X3_init_42 (R' := Rm 0) (Nat.le_of_ble_eq_true rfl) (Nat.le_of_ble_eq_true rfl) ?_
  refine b_X3_init_46 (R' := Rm 0) (by rw [kd_al, if_neg (by omega)]; exact h5) ?_
  have w6 := SG_al (μ := m5) (a := a) (s := a + 6) (q := (1, 3)) 9 D0 z5 (by omega)
  generalize wr (al m5 (1, 3)) a 9 (some (sz m5)) = m6 at w6 ⊢
  obtain ⟨s6, z6, k6⟩ := w6
  replace z6 : sz m6 = a + 7 := by omega
  have h6 : kd m6 a = (0, 3) := (s6.1.2.1 a (by omega)).trans h5
  refine b_X3_init_49 (R' := Rm 0) (Nat.le_of_ble_eq_true rfl) (Nat.le_of_ble_eq_true rfl) ?_
  refine b_X3_init_54 (R' := Rm 0) (by rw [kd_al, if_neg (by omega)]; exact h6) ?_
  have w7 := SG_al (μ := m6) (a := a) (s := a + 7) (q := (1, 12)) 10 D0 z6 (by omega)
  generalize wr (al m6 (1, 12)) a 10 (some (sz m6)) = m7 at w7 ⊢
  obtain ⟨s7, z7, k7⟩ := w7
  replace z7 : sz m7 = a + 8 := by omega
  have h7 : kd m7 a = (0, 3) := (s7.1.2.1 a (by omega)).trans h6
  have o6 := s7.1
  have o5 := s6.1.tr o6
  have o4 := s5.1.tr o5
  have o3 := s4.1.tr o4
  have o2 := s3.1.tr o3
  have o1 := s2.1.tr o2
  have oo := s1.1.tr o1
  exact b_X3_init_57 (R' := Rm 0) (hK _ oo (by omega) ⟨h7, by rw [s7.2, if_neg (by decide), s6.2, if_neg (by decide), s5.2, if_neg (by decide), s4.2, if_neg (by decide), s3.2, if_neg (by decide), s2.2, if_neg (by decide), s1.2, if_pos rfl], (o1.2.1 _ (by omega)).trans k1, by rw [s7.2, if_neg (by decide), s6.2, if_neg (by decide), s5.2, if_neg (by decide), s4.2, if_neg (by decide), s3.2, if_neg (by decide), s2.2, if_pos rfl], (o2.2.1 _ (by omega)).trans k2, by rw [s7.2, if_neg (by decide), s6.2, if_neg (by decide), s5.2, if_neg (by decide), s4.2, if_neg (by decide), s3.2, if_pos rfl], (o3.2.1 _ (by omega)).trans k3, by rw [s7.2, if_neg (by decide), s6.2, if_neg (by decide), s5.2, if_neg (by decide), s4.2, if_pos rfl], (o4.2.1 _ (by omega)).trans k4, by rw [s7.2, if_neg (by decide), s6.2, if_neg (by decide), s5.2, if_pos rfl], (o5.2.1 _ (by omega)).trans k5, by rw [s7.2, if_neg (by decide), s6.2, if_pos rfl], (o6.2.1 _ (by omega)).trans k6, by rw [s7.2, if_pos rfl], k7⟩) rfl rfl
theorem N_X6 (hk : kd μ a = (0, 6)) (hs : sz μ = a + 1) (hK : ∀ ν, EX (· = a) D0 μ ν → sz ν = a + 25 → (WF6 ν a ∧ WF5 ν (a + 1)) → K none ν) : Ct X (RC 2 24 138) mX6_init [.ref a] μ K := by
  refine Ct_of rfl (Nat.le_of_ble_eq_true rfl) ?_
  refine b_X6_init_0 (R' := Rm 0) ⟨Nat.le_of_ble_eq_true rfl, Nat.le_of_ble_eq_true rfl, Nat.le_of_ble_eq_true rfl, Nat.le_of_ble_eq_true rfl⟩ (Nat.le_of_ble_eq_true rfl) (Nat.le_of_ble_eq_true rfl) ?_
  refine b_X6_init_8 (R' := (RC 1 23 132)) ⟨Nat.le_of_ble_eq_true rfl, Nat.le_of_ble_eq_true rfl, Nat.le_of_ble_eq_true rfl, Nat.le_of_ble_eq_true rfl⟩ (N_X5 (by rw [kd_al, if_pos (by omega)]) (by rw [sz_al]) fun n1 e1 y1 w1 => ?_)
  refine b_X6_init_12 (R' := Rm 0) ((e1.2.1 a (by rw [sz_al]; omega)).trans (by rw [kd_al, if_neg (by omega)]; exact hk)) ?_
  have v1 := SG_sub (a := a) 0 hs (by omega) (by rw [← hs]; exact e1)
  generalize wr n1 a 0 (some (sz μ)) = m1 at v1 ⊢
  rw [hs] at y1 w1
  obtain ⟨s1, x1, z1⟩ := v1
  replace z1 : sz m1 = a + 25 := by omega
  replace w1 : WF5 m1 (a + 1) := w1.ex x1 (by omega) (fun z h1 h2 => show ¬ z = a by omega)
  have h1 : kd m1 a = (0, 6) := (s1.1.2.1 a (by omega)).trans hk
  have oo := s1.1
  exact b_X6_init_15 (R' := Rm 0) (hK _ oo (by omega) ⟨⟨h1, by rw [s1.2, if_pos rfl]⟩, w1⟩) rfl rfl
theorem N_X7 (hk : kd μ a = (0, 7)) (hs : sz μ = a + 1) (hK : ∀ ν, EX (· = a) D0 μ ν → sz ν = a + 2 → (WF7 ν a) → K none ν) : Ct X (RC 1 1 40) mX7_init [.ref a] μ K := by
  refine Ct_of rfl (Nat.le_of_ble_eq_true rfl) ?_
  refine b_X7_init_0 (R' := Rm 0) ⟨Nat.le_of_ble_eq_true rfl, Nat.le_of_ble_eq_true rfl, Nat.le_of_ble_eq_true rfl, Nat.le_of_ble_eq_true rfl⟩ (Nat.le_of_ble_eq_true rfl) (Nat.le_of_ble_eq_true rfl) ?_
  refine b_X7_init_9 (R' := Rm 0) (by rw [kd_al, if_neg (by omega)]; exact hk) ?_
  have w1 := SG_al (μ := μ) (a := a) (s := a + 1) (q := (1, 40)) 3 D0 hs (by omega)
  generalize wr (al μ (1, 40)) a 3 (some (sz μ)) = m1 at w1 ⊢
  obtain ⟨s1, z1, k1⟩ := w1
  replace z1 : sz m1 = a + 2 := by omega
  have h1 : kd m1 a = (0, 7) := (s1.1.2.1 a (by omega)).trans hk
  have oo := s1.1
  exact b_X7_init_12 (R' := Rm 0) (hK _ oo (by omega) ⟨h1, by rw [s1.2, if_pos rfl], k1⟩) rfl rfl
theorem N_X8 (hk : kd μ a = (0, 8)) (hs : sz μ = a + 1) (hK : ∀ ν, EX (· = a) D0 μ ν → sz ν = a + 1 → (WF8 ν a) → K none ν) : Ct X (RC 1 0 0) mX8_init [.ref a] μ K := by
  refine Ct_of rfl (Nat.le_of_ble_eq_true rfl) ?_
  exact b_X8_init_0 (R' := Rm 0) ⟨Nat.le_of_ble_eq_true rfl, Nat.le_of_ble_eq_true rfl, Nat.le_of_ble_eq_true rfl, Nat.le_of_ble_eq_true rfl⟩ (hK _ ⟨Nat.le_refl _, fun _ _ => rfl, fun _ _ _ _ => rfl, fun _ _ _ => rfl, fun _ _ _ _ _ => by omega⟩ hs hk) rfl rfl
theorem N_X9 (hk : kd μ a = (0, 9)) (hs : sz μ = a + 1) (hK : ∀ ν, EX (· = a) D0 μ ν → sz ν = a + 2 → (WF9 ν a) → K none ν) : Ct X (RC 1 1 320) mX9_init [.ref a] μ K := by
  refine Ct_of rfl (Nat.le_of_ble_eq_true rfl) ?_
  refine b_X9_init_0 (R' := Rm 0) ⟨Nat.le_of_ble_eq_true rfl, Nat.le_of_ble_eq_true rfl, Nat.le_of_ble_eq_true rfl, Nat.le_of_ble_eq_true rfl⟩ (Nat.le_of_ble_eq_true rfl) (Nat.le_of_ble_eq_true rfl) ?_
  refine b_X9_init_10 (R' := Rm 0) (by rw [kd_al, if_neg (by omega)]; exact hk) ?_
  have w1 := SG_al (μ := μ) (a := a) (s := a + 1) (q := (2, 320)) 0 D0 hs (by omega)
  generalize wr (al μ (2, 320)) a 0 (some (sz μ)) = m1 at w1 ⊢
  obtain ⟨s1, z1, k1⟩ := w1
  replace z1 : sz m1 = a + 2 := by omega
  have h1 : kd m1 a = (0, 9) := (s1.1.2.1 a (by omega)).trans hk
  have oo := s1.1
  exact b_X9_init_13 (R' := Rm 0) (hK _ oo (by omega) ⟨h1, by rw [s1.2, if_pos rfl], k1⟩) rfl rfl
end P71
