section P72
variable {X : cX} {R R' : Room} {cs sl : Nat} {μ : mM} {K : Option Value → mM → Prop} {a : Nat}
theorem c_X10_init_25 {r0 : Nat} {l1 : Int32} {p0 : Nat} (hK : (4 : Int32) ≤ l1 → K none μ) (hcs : (4 : Int32) ≤ l1 → cs = R.cells) (hsl : (4 : Int32) ≤ l1 → sl = R.slots) (hk_r0 : kd μ r0 = (0, 10)) (hr_p0 : rv μ r0 1 = some p0) (hc1 : ¬ (4 : Int32) ≤ l1 → cs + 1 ≤ R.cells) (hs1 : ¬ (4 : Int32) ≤ l1 → sl + 11 ≤ R.slots) (h : ¬ (4 : Int32) ≤ l1 → G X R mX10_init 38 [(0, .ref r0), (1, .int l1)] [.ref (sz μ), .int l1, .ref p0] (al μ (0, 3)) (cs + 1) (sl + 11) K) : G X R mX10_init 25 [(0, .ref r0), (1, .int l1)] [] μ cs sl K := by
  refine G_iload_n d_X10_init_25 rfl 1 rfl ?_
  refine G_iconst d_X10_init_26 ic_4 ?_
  refine G_icmp_ge (tgt := 49) d_X10_init_27 rfl (fun c0 => ?_) (fun c0 => ?_)
  · exact G_vret rfl (hcs c0) (hsl c0) d_X10_init_49 (hK c0)
  · refine G_aload_n d_X10_init_30 rfl 0 rfl ?_
    refine G_getR (r := p0) 10 1 hk_r0 hr_p0 cok10 (by decide) rfl fl_X10_20 d_X10_init_31 ?_
    refine G_iload_n d_X10_init_34 rfl 1 rfl ?_
    refine G_new 3 cok3 cdf3 (by decide) cl_X10_18 ins_X3 in_X3 (hc1 c0) (hs1 c0) d_X10_init_35 ?_
    exact (h c0)
theorem c_X11_init_154 {r0 : Nat} {l1 : Int32} {p0 : Nat} (hK : (4 : Int32) ≤ l1 → K none μ) (hcs : (4 : Int32) ≤ l1 → cs = R.cells) (hsl : (4 : Int32) ≤ l1 → sl = R.slots) (hk_r0 : kd μ r0 = (0, 11)) (hr_p0 : rv μ r0 6 = some p0) (hc1 : ¬ (4 : Int32) ≤ l1 → cs + 1 ≤ R.cells) (hs1 : ¬ (4 : Int32) ≤ l1 → sl + 4 ≤ R.slots) (h : ¬ (4 : Int32) ≤ l1 → G X R mX11_init 167 [(0, .ref r0), (1, .int l1)] [.ref (sz μ), .int l1, .ref p0] (al μ (0, 7)) (cs + 1) (sl + 4) K) : G X R mX11_init 154 [(0, .ref r0), (1, .int l1)] [] μ cs sl K := by
  refine G_iload_n d_X11_init_154 rfl 1 rfl ?_
  refine G_iconst d_X11_init_155 ic_4 ?_
  refine G_icmp_ge (tgt := 178) d_X11_init_156 rfl (fun c0 => ?_) (fun c0 => ?_)
  · exact G_vret rfl (hcs c0) (hsl c0) d_X11_init_178 (hK c0)
  · refine G_aload_n d_X11_init_159 rfl 0 rfl ?_
    refine G_getR (r := p0) 11 6 hk_r0 hr_p0 cok11 (by decide) rfl fl_X11_42 d_X11_init_160 ?_
    refine G_iload_n d_X11_init_163 rfl 1 rfl ?_
    refine G_new 7 cok7 cdf7 (by decide) cl_X11_40 ins_X7 in_X7 (hc1 c0) (hs1 c0) d_X11_init_164 ?_
    exact (h c0)
theorem N_X10 (hk : kd μ a = (0, 10)) (hs : sz μ = a + 1) (hK : ∀ ν, EX (· = a) D0 μ ν → sz ν = a + 58 → (WTo ν a) → K none ν) : Ct X (RC 2 57 414) mX10_init [.ref a] μ K := by
  refine Ct_of rfl (Nat.le_of_ble_eq_true rfl) ?_
  have H : ∀ n i, i + n = 4 → ∀ m, sz m = a + 26 + 8 * i → EX (fun z => z = a ∨ z = a + 25) D0 μ m → kd m a = (0, 10) → kd m (a + 25) = (6, 4) → rv m a 0 = some (a + 1) → rv m a 1 = some (a + 25) → WF5 m (a + 1) → (∀ k, k < i → rv m (a + 25) k = some (a + 26 + 8 * k)) → (∀ k, k < i → WF3 m (a + 26 + 8 * k)) → G X (RC 2 57 414) mX10_init 25 [(0, .ref a), (1, .int (nI i))] [] m (25 + 8 * i) (142 + 68 * i) K := by
    intro n
    induction n with
    | zero =>
      intro i hi m z e k0 k1 r0 r1 w5 rr ww
      have ei : i = 4 := by omega
      subst ei
      refine c_X10_init_25 (fun _ => hK m (e.mono (fun z hz h => by omega)) (by omega) ⟨⟨k0, r0, r1, k1, rr⟩, w5, ww⟩) (fun _ => rfl) (fun _ => rfl) k0 r1 (fun h => absurd h (by decide)) (fun h => absurd h (by decide)) (fun h => absurd h (by decide))
    | succ n ih =>
      intro i hi m z e k0 k1 r0 r1 w5 rr ww
      have hl : ¬ (4 : Int32) ≤ nI i := by
        rw [show (4 : Int32) = nI 4 from rfl, nI_leI (by decide) (by omega)]; omega
      refine c_X10_init_25 (fun h => absurd h hl) (fun h => absurd h hl) (fun h => absurd h hl) k0 r1 (fun _ => by show _ ≤ 57; omega) (fun _ => by show _ ≤ 414; omega) (fun _ => ?_)
      refine b_X10_init_38 (R' := (RC 1 7 57)) ⟨Nat.le_of_ble_eq_true rfl, Nat.le_of_ble_eq_true rfl, by show _ + 7 ≤ 57; omega, by show _ + 57 ≤ 414; omega⟩ (N_X3 (by rw [kd_al, if_pos (by omega)]) (by rw [sz_al]) fun n1 e1 y1 w1 => ?_)
      refine b_X10_init_42 (R' := Rm 0) (n0 := 4) (j0 := i) ((e1.2.1 _ (by rw [sz_al]; omega)).trans (by rw [kd_al, if_neg (by omega)]; exact k1)) rfl (by omega) w1.1 ?_
      have v := SG_sub (a := a + 25) i z (by omega) (by rw [← z]; exact e1)
      generalize wr n1 (a + 25) i (some (sz m)) = m1 at v ⊢
      rw [z] at y1 w1
      obtain ⟨s1, x1, z1⟩ := v
      refine b_X10_init_43 (R' := Rm 0) ?_
      have e2 := ih (i + 1) (by omega) m1 (by omega) (e.tr (s1.1.mono (fun z _ h => Or.inr h))) ((s1.1.2.1 _ (by omega)).trans k0) ((s1.1.2.1 _ (by omega)).trans k1) ((s1.1.2.2.1 _ _ (by omega) (show ¬ _ = a + 25 by omega)).trans r0) ((s1.1.2.2.1 _ _ (by omega) (show ¬ _ = a + 25 by omega)).trans r1) (w5.ex s1.1 (by omega) (fun z h1 h2 => show ¬ z = a + 25 by omega)) (fun k hk => ?_) (fun k hk => ?_)
      · rw [show 25 + 8 * i + 1 + 7 = 25 + 8 * (i + 1) by omega, show 142 + 68 * i + 11 + 57 = 142 + 68 * (i + 1) by omega]; exact e2
      · rw [s1.2]
        by_cases h : k = i
        · rw [if_pos h, h]
        · rw [if_neg h]; exact rr k (by omega)
      · by_cases h : k = i
        · rw [h]; exact w1.ex x1 (by omega) (fun z h1 h2 => show ¬ z = a + 25 by omega)
        · exact (ww k (by omega)).ex s1.1 (by omega) (fun z h1 h2 => show ¬ z = a + 25 by omega)
  refine b_X10_init_0 (R' := Rm 0) ⟨Nat.le_of_ble_eq_true rfl, Nat.le_of_ble_eq_true rfl, Nat.le_of_ble_eq_true rfl, Nat.le_of_ble_eq_true rfl⟩ (Nat.le_of_ble_eq_true rfl) (Nat.le_of_ble_eq_true rfl) ?_
  refine b_X10_init_8 (R' := (RC 1 23 132)) ⟨Nat.le_of_ble_eq_true rfl, Nat.le_of_ble_eq_true rfl, Nat.le_of_ble_eq_true rfl, Nat.le_of_ble_eq_true rfl⟩ (N_X5 (by rw [kd_al, if_pos (by omega)]) (by rw [sz_al]) fun n1 e1 y1 w1 => ?_)
  refine b_X10_init_12 (R' := Rm 0) ((e1.2.1 a (by rw [sz_al]; omega)).trans (by rw [kd_al, if_neg (by omega)]; exact hk)) ?_
  have v1 := SG_sub (a := a) 0 hs (by omega) (by rw [← hs]; exact e1)
  generalize wr n1 a 0 (some (sz μ)) = m1 at v1 ⊢
  rw [hs] at y1 w1
  obtain ⟨s1, x1, z1⟩ := v1
  replace z1 : sz m1 = a + 25 := by omega
  replace w1 : WF5 m1 (a + 1) := w1.ex x1 (by omega) (fun z h1 h2 => show ¬ z = a by omega)
  have h1 : kd m1 a = (0, 10) := (s1.1.2.1 a (by omega)).trans hk
  refine b_X10_init_15 (R' := Rm 0) (Nat.le_of_ble_eq_true rfl) (Nat.le_of_ble_eq_true rfl) ?_
  refine b_X10_init_20 (R' := Rm 0) (by rw [kd_al, if_neg (by omega)]; exact h1) ?_
  have w2 := SG_al (μ := m1) (a := a) (s := a + 25) (q := (6, 4)) 1 D0 z1 (by omega)
  generalize wr (al m1 (6, 4)) a 1 (some (sz m1)) = m2 at w2 ⊢
  obtain ⟨s2, z2, k2⟩ := w2
  replace z2 : sz m2 = a + 26 := by omega
  have h2 : kd m2 a = (0, 10) := (s2.1.2.1 a (by omega)).trans h1
  have o1 := s2.1
  have oo := s1.1.tr o1
  refine b_X10_init_23 (R' := Rm 0) ?_
  exact H 4 0 rfl m2 (by omega) (oo.mono (fun z _ h => Or.inl h)) h2 k2 (by rw [s2.2, if_neg (by decide), s1.2, if_pos rfl]) (by rw [s2.2, if_pos rfl]) (w1.ex o1 (by omega) (fun z h1 h2 => show ¬ z = a by omega)) (fun k hk => absurd hk (by omega)) (fun k hk => absurd hk (by omega))
theorem N_X4 (hk : kd μ a = (0, 4)) (hs : sz μ = a + 1) (hK : ∀ ν, EX (· = a) D0 μ ν → sz ν = a + 59 → (WF4 ν a ∧ rv ν a 0 = some (a + 1) ∧ WTo ν (a + 1)) → K none ν) : Ct X (RC 3 58 417) mX4_init [.ref a] μ K := by
  refine Ct_of rfl (Nat.le_of_ble_eq_true rfl) ?_
  refine b_X4_init_0 (R' := Rm 0) ⟨Nat.le_of_ble_eq_true rfl, Nat.le_of_ble_eq_true rfl, Nat.le_of_ble_eq_true rfl, Nat.le_of_ble_eq_true rfl⟩ (Nat.le_of_ble_eq_true rfl) (Nat.le_of_ble_eq_true rfl) ?_
  refine b_X4_init_8 (R' := (RC 2 57 414)) ⟨Nat.le_of_ble_eq_true rfl, Nat.le_of_ble_eq_true rfl, Nat.le_of_ble_eq_true rfl, Nat.le_of_ble_eq_true rfl⟩ (N_X10 (by rw [kd_al, if_pos (by omega)]) (by rw [sz_al]) fun n1 e1 y1 w1 => ?_)
  refine b_X4_init_12 (R' := Rm 0) ((e1.2.1 a (by rw [sz_al]; omega)).trans (by rw [kd_al, if_neg (by omega)]; exact hk)) ?_
  have v1 := SG_sub (a := a) 0 hs (by omega) (by rw [← hs]; exact e1)
  generalize wr n1 a 0 (some (sz μ)) = m1 at v1 ⊢
  rw [hs] at y1 w1
  obtain ⟨s1, x1, z1⟩ := v1
  replace z1 : sz m1 = a + 59 := by omega
  replace w1 : WTo m1 (a + 1) := w1.ex x1 (by omega) (fun z h1 h2 => show ¬ z = a by omega)
  have h1 : kd m1 a = (0, 4) := (s1.1.2.1 a (by omega)).trans hk
  have oo := s1.1
  exact b_X4_init_15 (R' := Rm 0) (hK _ oo (by omega) ⟨h1, by rw [s1.2, if_pos rfl], w1⟩) rfl rfl
/-- what stands before the two loops of the class's constructor -/
def B11 (μ : mM) (a : Nat) : Prop := kd μ a = (0, 11) ∧ rv μ a 0 = some (a + 1) ∧ rv μ a 1 = some (a + 3) ∧ rv μ a 4 = some (a + 120) ∧ kd μ (a + 120) = (5, 2) ∧ rv μ a 5 = some (a + 121) ∧ kd μ (a + 121) = (3, 2) ∧ rv μ a 6 = some (a + 122) ∧ kd μ (a + 122) = (7, 4) ∧ rv μ a 8 = some (a + 123) ∧ rv μ a 9 = some (a + 147) ∧ rv μ a 10 = some (a + 149) ∧ rv μ a 11 = some (a + 175) ∧ rv μ a 12 = some (a + 200) ∧ rv μ a 13 = some (a + 201) ∧ rv μ a 2 = some (a + 62) ∧ (WF9 μ (a + 1)) ∧ (WF4 μ (a + 3) ∧ rv μ (a + 3) 0 = some ((a + 3) + 1) ∧ WTo μ ((a + 3) + 1)) ∧ (WTo μ (a + 62)) ∧ (WF5 μ (a + 123)) ∧ (WF1 μ (a + 147)) ∧ (WF2 μ (a + 149) ∧ WF5 μ ((a + 149) + 1)) ∧ (WF6 μ (a + 175) ∧ WF5 μ ((a + 175) + 1)) ∧ (WF8 μ (a + 200)) ∧ (WF0 μ (a + 201))
theorem B11.ex {E D : Nat → Prop} {ν : mM} (h : B11 μ a) (g : EX E D μ ν) (hs : a + 204 ≤ sz μ) (hn : ∀ z, z < a + 204 → z ≠ a + 120 → z ≠ a + 122 → ¬ E z) : B11 ν a := by
  have kk : ∀ z, z < a + 204 → kd ν z = kd μ z := fun z _ => g.2.1 z (by omega)
  have rr : ∀ z j, z < a + 204 → z ≠ a + 120 → z ≠ a + 122 → rv ν z j = rv μ z j := fun z j h1 h2 h3 => g.2.2.1 z j (by omega) (hn z h1 h2 h3)
  exact ⟨(kk _ (by omega)).trans h.1, (rr _ _ (by omega) (by omega) (by omega)).trans h.2.1, (rr _ _ (by omega) (by omega) (by omega)).trans h.2.2.1, (rr _ _ (by omega) (by omega) (by omega)).trans h.2.2.2.1, (kk _ (by omega)).trans h.2.2.2.2.1, (rr _ _ (by omega) (by omega) (by omega)).trans h.2.2.2.2.2.1, (kk _ (by omega)).trans h.2.2.2.2.2.2.1, (rr _ _ (by omega) (by omega) (by omega)).trans h.2.2.2.2.2.2.2.1, (kk _ (by omega)).trans h.2.2.2.2.2.2.2.2.1, (rr _ _ (by omega) (by omega) (by omega)).trans h.2.2.2.2.2.2.2.2.2.1, (rr _ _ (by omega) (by omega) (by omega)).trans h.2.2.2.2.2.2.2.2.2.2.1, (rr _ _ (by omega) (by omega) (by omega)).trans h.2.2.2.2.2.2.2.2.2.2.2.1, (rr _ _ (by omega) (by omega) (by omega)).trans h.2.2.2.2.2.2.2.2.2.2.2.2.1, (rr _ _ (by omega) (by omega) (by omega)).trans h.2.2.2.2.2.2.2.2.2.2.2.2.2.1, (rr _ _ (by omega) (by omega) (by omega)).trans h.2.2.2.2.2.2.2.2.2.2.2.2.2.2.1, (rr _ _ (by omega) (by omega) (by omega)).trans h.2.2.2.2.2.2.2.2.2.2.2.2.2.2.2.1, h.2.2.2.2.2.2.2.2.2.2.2.2.2.2.2.2.1.ex g (by omega) (fun z h1 h2 => hn z (by omega) (by omega) (by omega)), ⟨h.2.2.2.2.2.2.2.2.2.2.2.2.2.2.2.2.2.1.1.ex g (by omega) (fun z h1 h2 => hn z (by omega) (by omega) (by omega)), (rr _ _ (by omega) (by omega) (by omega)).trans h.2.2.2.2.2.2.2.2.2.2.2.2.2.2.2.2.2.1.2.1, h.2.2.2.2.2.2.2.2.2.2.2.2.2.2.2.2.2.1.2.2.ex g (by omega) (fun z h1 h2 => hn z (by omega) (by omega) (by omega))⟩, h.2.2.2.2.2.2.2.2.2.2.2.2.2.2.2.2.2.2.1.ex g (by omega) (fun z h1 h2 => hn z (by omega) (by omega) (by omega)), h.2.2.2.2.2.2.2.2.2.2.2.2.2.2.2.2.2.2.2.1.ex g (by omega) (fun z h1 h2 => hn z (by omega) (by omega) (by omega)), h.2.2.2.2.2.2.2.2.2.2.2.2.2.2.2.2.2.2.2.2.1.ex g (by omega) (fun z h1 h2 => hn z (by omega) (by omega) (by omega)), ⟨h.2.2.2.2.2.2.2.2.2.2.2.2.2.2.2.2.2.2.2.2.2.1.1.ex g (by omega) (fun z h1 h2 => hn z (by omega) (by omega) (by omega)), h.2.2.2.2.2.2.2.2.2.2.2.2.2.2.2.2.2.2.2.2.2.1.2.ex g (by omega) (fun z h1 h2 => hn z (by omega) (by omega) (by omega))⟩, ⟨h.2.2.2.2.2.2.2.2.2.2.2.2.2.2.2.2.2.2.2.2.2.2.1.1.ex g (by omega) (fun z h1 h2 => hn z (by omega) (by omega) (by omega)), h.2.2.2.2.2.2.2.2.2.2.2.2.2.2.2.2.2.2.2.2.2.2.1.2.ex g (by omega) (fun z h1 h2 => hn z (by omega) (by omega) (by omega))⟩, h.2.2.2.2.2.2.2.2.2.2.2.2.2.2.2.2.2.2.2.2.2.2.2.1.ex g (by omega) (fun z h1 h2 => hn z (by omega) (by omega) (by omega)), h.2.2.2.2.2.2.2.2.2.2.2.2.2.2.2.2.2.2.2.2.2.2.2.2.ex g (by omega) (fun z h1 h2 => hn z (by omega) (by omega) (by omega))⟩
theorem N_X11_2 (hs : sz μ = a + 1) (hK : ∀ ν, EX (· = a) D0 μ ν → sz ν = a + 260 → WC ν a (a + 62) (a + 4) → K none ν) : ∀ n i, i + n = 4 → ∀ m, sz m = a + 252 + 2 * i → EX (fun z => z = a ∨ z = a + 120 ∨ z = a + 122) D0 μ m → B11 m a → (∀ k, k < 2 → rv m (a + 120) k = some (a + 204 + 24 * k)) → (∀ k, k < 2 → WF5 m (a + 204 + 24 * k)) → (∀ k, k < i → rv m (a + 122) k = some (a + 252 + 2 * k)) → (∀ k, k < i → WF7 m (a + 252 + 2 * k)) → G X (RC 4 259 2074) mX11_init 154 [(0, .ref a), (1, .int (nI i))] [] m (251 + 2 * i) (1898 + 44 * i) K := by
  intro n
  induction n with
  | zero =>
    intro i hi m z e b ri wi rs ws
    have ei : i = 4 := by omega
    subst ei
    refine c_X11_init_154 (fun _ => hK m (e.mono (fun z hz h => show z = a by omega)) (by omega) ⟨⟨b.1, b.2.1, b.2.2.1, b.2.2.2.1, b.2.2.2.2.1, ri, b.2.2.2.2.2.1, b.2.2.2.2.2.2.1, b.2.2.2.2.2.2.2.1, b.2.2.2.2.2.2.2.2.1, rs, b.2.2.2.2.2.2.2.2.2.1, b.2.2.2.2.2.2.2.2.2.2.1, b.2.2.2.2.2.2.2.2.2.2.2.1, b.2.2.2.2.2.2.2.2.2.2.2.2.1, b.2.2.2.2.2.2.2.2.2.2.2.2.2.1, b.2.2.2.2.2.2.2.2.2.2.2.2.2.2.1⟩, b.2.2.2.2.2.2.2.2.2.2.2.2.2.2.2.1, b.2.2.2.2.2.2.2.2.2.2.2.2.2.2.2.2.2.1.2.1, Or.inr ⟨rfl, rfl⟩, b.2.2.2.2.2.2.2.2.2.2.2.2.2.2.2.2.2.2.1, b.2.2.2.2.2.2.2.2.2.2.2.2.2.2.2.2.2.1.2.2, b.2.2.2.2.2.2.2.2.2.2.2.2.2.2.2.2.1, b.2.2.2.2.2.2.2.2.2.2.2.2.2.2.2.2.2.1.1, wi, b.2.2.2.2.2.2.2.2.2.2.2.2.2.2.2.2.2.2.2.1, b.2.2.2.2.2.2.2.2.2.2.2.2.2.2.2.2.2.2.2.2.1, b.2.2.2.2.2.2.2.2.2.2.2.2.2.2.2.2.2.2.2.2.2.1, b.2.2.2.2.2.2.2.2.2.2.2.2.2.2.2.2.2.2.2.2.2.2.1, b.2.2.2.2.2.2.2.2.2.2.2.2.2.2.2.2.2.2.2.2.2.2.2.1, b.2.2.2.2.2.2.2.2.2.2.2.2.2.2.2.2.2.2.2.2.2.2.2.2, ws⟩) (fun _ => rfl) (fun _ => rfl) b.1 b.2.2.2.2.2.2.2.1 (fun h => absurd h (by decide)) (fun h => absurd h (by decide)) (fun h => absurd h (by decide))
  | succ n ih =>
    intro i hi m z e b ri wi rs ws
    have hl : ¬ (4 : Int32) ≤ nI i := by
      rw [show (4 : Int32) = nI 4 from rfl, nI_leI (by decide) (by omega)]; omega
    refine c_X11_init_154 (fun h => absurd h hl) (fun h => absurd h hl) (fun h => absurd h hl) b.1 b.2.2.2.2.2.2.2.1 (fun _ => by show _ ≤ 259; omega) (fun _ => by show _ ≤ 2074; omega) (fun _ => ?_)
    refine b_X11_init_167 (R' := (RC 1 1 40)) ⟨Nat.le_of_ble_eq_true rfl, Nat.le_of_ble_eq_true rfl, by show _ + 1 ≤ 259; omega, by show _ + 40 ≤ 2074; omega⟩ (N_X7 (by rw [kd_al, if_pos (by omega)]) (by rw [sz_al]) fun n1 e1 y1 w1 => ?_)
    refine b_X11_init_171 (R' := Rm 0) (n0 := 4) (j0 := i) ((e1.2.1 _ (by rw [sz_al]; omega)).trans (by rw [kd_al, if_neg (by omega)]; exact b.2.2.2.2.2.2.2.2.1)) rfl (by omega) w1.1 ?_
    have v := SG_sub (a := a + 122) i z (by omega) (by rw [← z]; exact e1)
    generalize wr n1 (a + 122) i (some (sz m)) = m1 at v ⊢
    rw [z] at y1 w1
    obtain ⟨s1, x1, z1⟩ := v
    refine b_X11_init_172 (R' := Rm 0) ?_
    have e2 := ih (i + 1) (by omega) m1 (by omega) (e.tr (s1.1.mono (fun z _ h => Or.inr (Or.inr h)))) (b.ex s1.1 (by omega) (fun z _ _ h => h)) (fun k hk => (s1.1.2.2.1 _ _ (by omega) (show ¬ _ = a + 122 by omega)).trans (ri k hk)) (fun k hk => (wi k hk).ex s1.1 (by omega) (fun z h1 h2 => show ¬ z = a + 122 by omega)) (fun k hk => ?_) (fun k hk => ?_)
    · rw [show 251 + 2 * i + 1 + 1 = 251 + 2 * (i + 1) by omega, show 1898 + 44 * i + 4 + 40 = 1898 + 44 * (i + 1) by omega]; exact e2
    · rw [s1.2]
      by_cases h : k = i
      · rw [if_pos h, h]
      · rw [if_neg h]; exact rs k (by omega)
    · by_cases h : k = i
      · rw [h]; exact w1.ex x1 (by omega) (fun z h1 h2 => show ¬ z = a + 122 by omega)
      · exact (ws k (by omega)).ex s1.1 (by omega) (fun z h1 h2 => show ¬ z = a + 122 by omega)
theorem N_X11_1 (hs : sz μ = a + 1) (hK : ∀ ν, EX (· = a) D0 μ ν → sz ν = a + 260 → WC ν a (a + 62) (a + 4) → K none ν) : ∀ n i, i + n = 2 → ∀ m, sz m = a + 204 + 24 * i → EX (fun z => z = a ∨ z = a + 120 ∨ z = a + 122) D0 μ m → B11 m a → (∀ k, k < i → rv m (a + 120) k = some (a + 204 + 24 * k)) → (∀ k, k < i → WF5 m (a + 204 + 24 * k)) → G X (RC 4 259 2074) mX11_init 128 [(0, .ref a), (1, .int (nI i))] [] m (203 + 24 * i) (1622 + 138 * i) K := by
  intro n
  induction n with
  | zero =>
    intro i hi m z e b ri wi
    have ei : i = 2 := by omega
    subst ei
    refine b_X11_init_128 (R' := Rm 0) (fun _ => ?_) b.1 b.2.2.2.1 (Nat.le_of_ble_eq_true rfl) (Nat.le_of_ble_eq_true rfl) (fun h => absurd h (by decide))
    exact N_X11_2 hs hK 4 0 rfl m (by omega) e b ri wi (fun k hk => absurd hk (by omega)) (fun k hk => absurd hk (by omega))
  | succ n ih =>
    intro i hi m z e b ri wi
    have hl : ¬ (2 : Int32) ≤ nI i := by
      rw [show (2 : Int32) = nI 2 from rfl, nI_leI (by decide) (by omega)]; omega
    refine b_X11_init_128 (R' := Rm 0) (fun h => absurd h hl) b.1 b.2.2.2.1 (by show _ ≤ 259; omega) (by show _ ≤ 2074; omega) (fun _ => ?_)
    refine b_X11_init_141 (R' := (RC 1 23 132)) ⟨Nat.le_of_ble_eq_true rfl, Nat.le_of_ble_eq_true rfl, by show _ + 23 ≤ 259; omega, by show _ + 132 ≤ 2074; omega⟩ (N_X5 (by rw [kd_al, if_pos (by omega)]) (by rw [sz_al]) fun n1 e1 y1 w1 => ?_)
    refine b_X11_init_145 (R' := Rm 0) (n0 := 2) (j0 := i) ((e1.2.1 _ (by rw [sz_al]; omega)).trans (by rw [kd_al, if_neg (by omega)]; exact b.2.2.2.2.1)) rfl (by omega) w1.1 ?_
    have v := SG_sub (a := a + 120) i z (by omega) (by rw [← z]; exact e1)
    generalize wr n1 (a + 120) i (some (sz m)) = m1 at v ⊢
    rw [z] at y1 w1
    obtain ⟨s1, x1, z1⟩ := v
    refine b_X11_init_146 (R' := Rm 0) ?_
    have e2 := ih (i + 1) (by omega) m1 (by omega) (e.tr (s1.1.mono (fun z _ h => Or.inr (Or.inl h)))) (b.ex s1.1 (by omega) (fun z _ h _ => h)) (fun k hk => ?_) (fun k hk => ?_)
    · rw [show 203 + 24 * i + 1 + 23 = 203 + 24 * (i + 1) by omega, show 1622 + 138 * i + 6 + 132 = 1622 + 138 * (i + 1) by omega]; exact e2
    · rw [s1.2]
      by_cases h : k = i
      · rw [if_pos h, h]
      · rw [if_neg h]; exact ri k (by omega)
    · by_cases h : k = i
      · rw [h]; exact w1.ex x1 (by omega) (fun z h1 h2 => show ¬ z = a + 120 by omega)
      · exact (wi k (by omega)).ex s1.1 (by omega) (fun z h1 h2 => show ¬ z = a + 120 by omega)
theorem lt2_m {m : mM} {b c : Nat} (h : sz m = a + c) (h2 : b < c) : a + b < sz m := by omega
theorem le3_m {m : mM} {b c s : Nat} (h : sz m = a + c) (h2 : b + s ≤ c) : a + b + s ≤ sz m := by omega
theorem le4_m {m : mM} {b b' c s : Nat} (h : sz m = a + c) (h2 : b + b' + s ≤ c) : a + b + b' + s ≤ sz m := by omega
theorem ne1_m {b s : Nat} (h : 0 < b) : ∀ z, a + b ≤ z → z < a + b + s → ¬ z = a := fun z _ _ => by omega
theorem ne2_m {b b' s : Nat} (h : 0 < b) : ∀ z, a + b + b' ≤ z → z < a + b + b' + s → ¬ z = a := fun z _ _ => by omega
theorem S11_1 (hk : kd μ a = (0, 11)) (hs : sz μ = a + 1) (h : ∀ m, SG D0 a 0 (a + 1) μ m → sz m = a + 3 → kd m a = (0, 11) → (WF9 m (a + 1)) → G X (RC 4 259 2074) mX11_init 15 [(0, .ref a)] [] m 2 325 K) : G X (RC 4 259 2074) mX11_init 0 [(0, .ref a)] [] μ 0 0 K := by
  refine b_X11_init_0 (R' := Rm 0) ⟨Nat.le_of_ble_eq_true rfl, Nat.le_of_ble_eq_true rfl, Nat.le_of_ble_eq_true rfl, Nat.le_of_ble_eq_true rfl⟩ (Nat.le_of_ble_eq_true rfl) (Nat.le_of_ble_eq_true rfl) ?_
  refine b_X11_init_8 (R' := (RC 1 1 320)) ⟨Nat.le_of_ble_eq_true rfl, Nat.le_of_ble_eq_true rfl, Nat.le_of_ble_eq_true rfl, Nat.le_of_ble_eq_true rfl⟩ (N_X9 (by rw [kd_al, if_pos (by omega)]) (by rw [sz_al]) fun n1 e1 y1 w1 => ?_)
  refine b_X11_init_12 (R' := Rm 0) ((e1.2.1 a (by rw [sz_al]; omega)).trans (by rw [kd_al, if_neg (by omega)]; exact hk)) ?_
  obtain ⟨s1, x1, z1⟩ := SG_sub (a := a) 0 hs (by omega) (by rw [← hs]; exact e1)
  rw [hs] at y1 w1
  exact h _ s1 (by rw [z1, y1]) ((s1.1.2.1 a (by omega)).trans hk) (w1.ex x1 (by omega) (fun z h1 h2 => show ¬ z = a by omega))
theorem S11_2 (hk : kd μ a = (0, 11)) (hs : sz μ = a + 3) (h : ∀ m, SG D0 a 1 (a + 3) μ m → sz m = a + 62 → kd m a = (0, 11) → (WF4 m (a + 3) ∧ rv m (a + 3) 0 = some ((a + 3) + 1) ∧ WTo m ((a + 3) + 1)) → G X (RC 4 259 2074) mX11_init 26 [(0, .ref a)] [] m 61 747 K) : G X (RC 4 259 2074) mX11_init 15 [(0, .ref a)] [] μ 2 325 K := by
  refine b_X11_init_15 (R' := Rm 0) (Nat.le_of_ble_eq_true rfl) (Nat.le_of_ble_eq_true rfl) ?_
  refine b_X11_init_19 (R' := (RC 3 58 417)) ⟨Nat.le_of_ble_eq_true rfl, Nat.le_of_ble_eq_true rfl, Nat.le_of_ble_eq_true rfl, Nat.le_of_ble_eq_true rfl⟩ (N_X4 (by rw [kd_al, if_pos (by omega)]) (by rw [sz_al]) fun n1 e1 y1 w1 => ?_)
  refine b_X11_init_23 (R' := Rm 0) ((e1.2.1 a (by rw [sz_al]; omega)).trans (by rw [kd_al, if_neg (by omega)]; exact hk)) ?_
  obtain ⟨s1, x1, z1⟩ := SG_sub (a := a) 1 hs (by omega) (by rw [← hs]; exact e1)
  rw [hs] at y1 w1
  exact h _ s1 (by rw [z1, y1]) ((s1.1.2.1 a (by omega)).trans hk) (⟨w1.1.ex x1 (by omega) (fun z h1 h2 => show ¬ z = a by omega), (x1.2.2.1 _ _ (by omega) (by omega)).trans w1.2.1, w1.2.2.ex x1 (by omega) (fun z h1 h2 => show ¬ z = a by omega)⟩)
theorem S11_3 (hk : kd μ a = (0, 11)) (hs : sz μ = a + 62) (h : ∀ m, SG D0 a 2 (a + 62) μ m → sz m = a + 120 → kd m a = (0, 11) → (WTo m (a + 62)) → G X (RC 4 259 2074) mX11_init 37 [(0, .ref a)] [] m 119 1164 K) : G X (RC 4 259 2074) mX11_init 26 [(0, .ref a)] [] μ 61 747 K := by
  refine b_X11_init_26 (R' := Rm 0) (Nat.le_of_ble_eq_true rfl) (Nat.le_of_ble_eq_true rfl) ?_
  refine b_X11_init_30 (R' := (RC 2 57 414)) ⟨Nat.le_of_ble_eq_true rfl, Nat.le_of_ble_eq_true rfl, Nat.le_of_ble_eq_true rfl, Nat.le_of_ble_eq_true rfl⟩ (N_X10 (by rw [kd_al, if_pos (by omega)]) (by rw [sz_al]) fun n1 e1 y1 w1 => ?_)
  refine b_X11_init_34 (R' := Rm 0) ((e1.2.1 a (by rw [sz_al]; omega)).trans (by rw [kd_al, if_neg (by omega)]; exact hk)) ?_
  obtain ⟨s1, x1, z1⟩ := SG_sub (a := a) 2 hs (by omega) (by rw [← hs]; exact e1)
  rw [hs] at y1 w1
  exact h _ s1 (by rw [z1, y1]) ((s1.1.2.1 a (by omega)).trans hk) (w1.ex x1 (by omega) (fun z h1 h2 => show ¬ z = a by omega))
theorem S11_4 (hk : kd μ a = (0, 11)) (hs : sz μ = a + 120) (h : ∀ m, SG D0 a 4 (a + 120) μ m → sz m = a + 121 → kd m a = (0, 11) → kd m (a + 120) = (5, 2) → G X (RC 4 259 2074) mX11_init 45 [(0, .ref a)] [] m 120 1166 K) : G X (RC 4 259 2074) mX11_init 37 [(0, .ref a)] [] μ 119 1164 K := by
  refine b_X11_init_37 (R' := Rm 0) (Nat.le_of_ble_eq_true rfl) (Nat.le_of_ble_eq_true rfl) ?_
  refine b_X11_init_42 (R' := Rm 0) (by rw [kd_al, if_neg (by omega)]; exact hk) ?_
  obtain ⟨s1, z1, k1⟩ := SG_al (μ := μ) (a := a) (s := a + 120) (q := (5, 2)) 4 D0 hs (by omega)
  exact h _ s1 z1 ((s1.1.2.1 a (by omega)).trans hk) k1
theorem S11_5 (hk : kd μ a = (0, 11)) (hs : sz μ = a + 121) (h : ∀ m, SG D0 a 5 (a + 121) μ m → sz m = a + 122 → kd m a = (0, 11) → kd m (a + 121) = (3, 2) → G X (RC 4 259 2074) mX11_init 52 [(0, .ref a)] [] m 121 1168 K) : G X (RC 4 259 2074) mX11_init 45 [(0, .ref a)] [] μ 120 1166 K := by
  refine b_X11_init_45 (R' := Rm 0) (Nat.le_of_ble_eq_true rfl) (Nat.le_of_ble_eq_true rfl) ?_
  refine b_X11_init_49 (R' := Rm 0) (by rw [kd_al, if_neg (by omega)]; exact hk) ?_
  obtain ⟨s1, z1, k1⟩ := SG_al (μ := μ) (a := a) (s := a + 121) (q := (3, 2)) 5 D0 hs (by omega)
  exact h _ s1 z1 ((s1.1.2.1 a (by omega)).trans hk) k1
theorem S11_6 (hk : kd μ a = (0, 11)) (hs : sz μ = a + 122) (h : ∀ m, SG D0 a 6 (a + 122) μ m → sz m = a + 123 → kd m a = (0, 11) → kd m (a + 122) = (7, 4) → G X (RC 4 259 2074) mX11_init 60 [(0, .ref a)] [] m 122 1172 K) : G X (RC 4 259 2074) mX11_init 52 [(0, .ref a)] [] μ 121 1168 K := by
  refine b_X11_init_52 (R' := Rm 0) (Nat.le_of_ble_eq_true rfl) (Nat.le_of_ble_eq_true rfl) ?_
  refine b_X11_init_57 (R' := Rm 0) (by rw [kd_al, if_neg (by omega)]; exact hk) ?_
  obtain ⟨s1, z1, k1⟩ := SG_al (μ := μ) (a := a) (s := a + 122) (q := (7, 4)) 6 D0 hs (by omega)
  exact h _ s1 z1 ((s1.1.2.1 a (by omega)).trans hk) k1
theorem S11_7 (hk : kd μ a = (0, 11)) (hs : sz μ = a + 123) (h : ∀ m, SG D0 a 8 (a + 123) μ m → sz m = a + 147 → kd m a = (0, 11) → (WF5 m (a + 123)) → G X (RC 4 259 2074) mX11_init 71 [(0, .ref a)] [] m 146 1310 K) : G X (RC 4 259 2074) mX11_init 60 [(0, .ref a)] [] μ 122 1172 K := by
  refine b_X11_init_60 (R' := Rm 0) (Nat.le_of_ble_eq_true rfl) (Nat.le_of_ble_eq_true rfl) ?_
  refine b_X11_init_64 (R' := (RC 1 23 132)) ⟨Nat.le_of_ble_eq_true rfl, Nat.le_of_ble_eq_true rfl, Nat.le_of_ble_eq_true rfl, Nat.le_of_ble_eq_true rfl⟩ (N_X5 (by rw [kd_al, if_pos (by omega)]) (by rw [sz_al]) fun n1 e1 y1 w1 => ?_)
  refine b_X11_init_68 (R' := Rm 0) ((e1.2.1 a (by rw [sz_al]; omega)).trans (by rw [kd_al, if_neg (by omega)]; exact hk)) ?_
  obtain ⟨s1, x1, z1⟩ := SG_sub (a := a) 8 hs (by omega) (by rw [← hs]; exact e1)
  rw [hs] at y1 w1
  exact h _ s1 (by rw [z1, y1]) ((s1.1.2.1 a (by omega)).trans hk) (w1.ex x1 (by omega) (fun z h1 h2 => show ¬ z = a by omega))
theorem S11_8 (hk : kd μ a = (0, 11)) (hs : sz μ = a + 147) (h : ∀ m, SG D0 a 9 (a + 147) μ m → sz m = a + 149 → kd m a = (0, 11) → (WF1 m (a + 147)) → G X (RC 4 259 2074) mX11_init 82 [(0, .ref a)] [] m 148 1317 K) : G X (RC 4 259 2074) mX11_init 71 [(0, .ref a)] [] μ 146 1310 K := by
  refine b_X11_init_71 (R' := Rm 0) (Nat.le_of_ble_eq_true rfl) (Nat.le_of_ble_eq_true rfl) ?_
  refine b_X11_init_75 (R' := (RC 1 1 6)) ⟨Nat.le_of_ble_eq_true rfl, Nat.le_of_ble_eq_true rfl, Nat.le_of_ble_eq_true rfl, Nat.le_of_ble_eq_true rfl⟩ (N_X1 (by rw [kd_al, if_pos (by omega)]) (by rw [sz_al]) fun n1 e1 y1 w1 => ?_)
  refine b_X11_init_79 (R' := Rm 0) ((e1.2.1 a (by rw [sz_al]; omega)).trans (by rw [kd_al, if_neg (by omega)]; exact hk)) ?_
  obtain ⟨s1, x1, z1⟩ := SG_sub (a := a) 9 hs (by omega) (by rw [← hs]; exact e1)
  rw [hs] at y1 w1
  exact h _ s1 (by rw [z1, y1]) ((s1.1.2.1 a (by omega)).trans hk) (w1.ex x1 (by omega) (fun z h1 h2 => show ¬ z = a by omega))
theorem S11_9 (hk : kd μ a = (0, 11)) (hs : sz μ = a + 149) (h : ∀ m, SG D0 a 10 (a + 149) μ m → sz m = a + 175 → kd m a = (0, 11) → (WF2 m (a + 149) ∧ WF5 m ((a + 149) + 1)) → G X (RC 4 259 2074) mX11_init 93 [(0, .ref a)] [] m 174 1463 K) : G X (RC 4 259 2074) mX11_init 82 [(0, .ref a)] [] μ 148 1317 K := by
  refine b_X11_init_82 (R' := Rm 0) (Nat.le_of_ble_eq_true rfl) (Nat.le_of_ble_eq_true rfl) ?_
  refine b_X11_init_86 (R' := (RC 2 25 144)) ⟨Nat.le_of_ble_eq_true rfl, Nat.le_of_ble_eq_true rfl, Nat.le_of_ble_eq_true rfl, Nat.le_of_ble_eq_true rfl⟩ (N_X2 (by rw [kd_al, if_pos (by omega)]) (by rw [sz_al]) fun n1 e1 y1 w1 => ?_)
  refine b_X11_init_90 (R' := Rm 0) ((e1.2.1 a (by rw [sz_al]; omega)).trans (by rw [kd_al, if_neg (by omega)]; exact hk)) ?_
  obtain ⟨s1, x1, z1⟩ := SG_sub (a := a) 10 hs (by omega) (by rw [← hs]; exact e1)
  rw [hs] at y1 w1
  exact h _ s1 (by rw [z1, y1]) ((s1.1.2.1 a (by omega)).trans hk) (⟨w1.1.ex x1 (by omega) (fun z h1 h2 => show ¬ z = a by omega), w1.2.ex x1 (by omega) (fun z h1 h2 => show ¬ z = a by omega)⟩)
theorem S11_10 (hk : kd μ a = (0, 11)) (hs : sz μ = a + 175) (h : ∀ m, SG D0 a 11 (a + 175) μ m → sz m = a + 200 → kd m a = (0, 11) → (WF6 m (a + 175) ∧ WF5 m ((a + 175) + 1)) → G X (RC 4 259 2074) mX11_init 104 [(0, .ref a)] [] m 199 1604 K) : G X (RC 4 259 2074) mX11_init 93 [(0, .ref a)] [] μ 174 1463 K := by
  refine b_X11_init_93 (R' := Rm 0) (Nat.le_of_ble_eq_true rfl) (Nat.le_of_ble_eq_true rfl) ?_
  refine b_X11_init_97 (R' := (RC 2 24 138)) ⟨Nat.le_of_ble_eq_true rfl, Nat.le_of_ble_eq_true rfl, Nat.le_of_ble_eq_true rfl, Nat.le_of_ble_eq_true rfl⟩ (N_X6 (by rw [kd_al, if_pos (by omega)]) (by rw [sz_al]) fun n1 e1 y1 w1 => ?_)
  refine b_X11_init_101 (R' := Rm 0) ((e1.2.1 a (by rw [sz_al]; omega)).trans (by rw [kd_al, if_neg (by omega)]; exact hk)) ?_
  obtain ⟨s1, x1, z1⟩ := SG_sub (a := a) 11 hs (by omega) (by rw [← hs]; exact e1)
  rw [hs] at y1 w1
  exact h _ s1 (by rw [z1, y1]) ((s1.1.2.1 a (by omega)).trans hk) (⟨w1.1.ex x1 (by omega) (fun z h1 h2 => show ¬ z = a by omega), w1.2.ex x1 (by omega) (fun z h1 h2 => show ¬ z = a by omega)⟩)
theorem S11_11 (hk : kd μ a = (0, 11)) (hs : sz μ = a + 200) (h : ∀ m, SG D0 a 12 (a + 200) μ m → sz m = a + 201 → kd m a = (0, 11) → (WF8 m (a + 200)) → G X (RC 4 259 2074) mX11_init 115 [(0, .ref a)] [] m 200 1608 K) : G X (RC 4 259 2074) mX11_init 104 [(0, .ref a)] [] μ 199 1604 K := by
  refine b_X11_init_104 (R' := Rm 0) (Nat.le_of_ble_eq_true rfl) (Nat.le_of_ble_eq_true rfl) ?_
  refine b_X11_init_108 (R' := (RC 1 0 0)) ⟨Nat.le_of_ble_eq_true rfl, Nat.le_of_ble_eq_true rfl, Nat.le_of_ble_eq_true rfl, Nat.le_of_ble_eq_true rfl⟩ (N_X8 (by rw [kd_al, if_pos (by omega)]) (by rw [sz_al]) fun n1 e1 y1 w1 => ?_)
  refine b_X11_init_112 (R' := Rm 0) ((e1.2.1 a (by rw [sz_al]; omega)).trans (by rw [kd_al, if_neg (by omega)]; exact hk)) ?_
  obtain ⟨s1, x1, z1⟩ := SG_sub (a := a) 12 hs (by omega) (by rw [← hs]; exact e1)
  rw [hs] at y1 w1
  exact h _ s1 (by rw [z1, y1]) ((s1.1.2.1 a (by omega)).trans hk) (w1.ex x1 (by omega) (fun z h1 h2 => show ¬ z = a by omega))
theorem S11_12 (hk : kd μ a = (0, 11)) (hs : sz μ = a + 201) (h : ∀ m, SG D0 a 13 (a + 201) μ m → sz m = a + 204 → kd m a = (0, 11) → (WF0 m (a + 201)) → G X (RC 4 259 2074) mX11_init 126 [(0, .ref a)] [] m 203 1622 K) : G X (RC 4 259 2074) mX11_init 115 [(0, .ref a)] [] μ 200 1608 K := by
  refine b_X11_init_115 (R' := Rm 0) (Nat.le_of_ble_eq_true rfl) (Nat.le_of_ble_eq_true rfl) ?_
  refine b_X11_init_119 (R' := (RC 1 2 12)) ⟨Nat.le_of_ble_eq_true rfl, Nat.le_of_ble_eq_true rfl, Nat.le_of_ble_eq_true rfl, Nat.le_of_ble_eq_true rfl⟩ (N_X0 (by rw [kd_al, if_pos (by omega)]) (by rw [sz_al]) fun n1 e1 y1 w1 => ?_)
  refine b_X11_init_123 (R' := Rm 0) ((e1.2.1 a (by rw [sz_al]; omega)).trans (by rw [kd_al, if_neg (by omega)]; exact hk)) ?_
  obtain ⟨s1, x1, z1⟩ := SG_sub (a := a) 13 hs (by omega) (by rw [← hs]; exact e1)
  rw [hs] at y1 w1
  exact h _ s1 (by rw [z1, y1]) ((s1.1.2.1 a (by omega)).trans hk) (w1.ex x1 (by omega) (fun z h1 h2 => show ¬ z = a by omega))
theorem N_X11 (hk : kd μ a = (0, 11)) (hs : sz μ = a + 1) (hK : ∀ ν, EX (· = a) D0 μ ν → sz ν = a + 260 → (WC ν a (a + 62) (a + 4)) → K none ν) : Ct X (RC 4 259 2074) mX11_init [.ref a] μ K := by
  refine Ct_of rfl (Nat.le_of_ble_eq_true rfl) ?_
  refine S11_1 hk hs fun m1 s1 z1 h1 w1 => ?_
  refine S11_2 h1 z1 fun m2 s2 z2 h2 w2 => ?_
  refine S11_3 h2 z2 fun m3 s3 z3 h3 w3 => ?_
  refine S11_4 h3 z3 fun m4 s4 z4 h4 k4 => ?_
  refine S11_5 h4 z4 fun m5 s5 z5 h5 k5 => ?_
  refine S11_6 h5 z5 fun m6 s6 z6 h6 k6 => ?_
  refine S11_7 h6 z6 fun m7 s7 z7 h7 w7 => ?_
  refine S11_8 h7 z7 fun m8 s8 z8 h8 w8 => ?_
  refine S11_9 h8 z8 fun m9 s9 z9 h9 w9 => ?_
  refine S11_10 h9 z9 fun m10 s10 z10 h10 w10 => ?_
  refine S11_11 h10 z10 fun m11 s11 z11 h11 w11 => ?_
  refine S11_12 h11 z11 fun m12 s12 z12 h12 w12 => ?_
  have o11 := s12.1
  have o10 := s11.1.tr o11
  have o9 := s10.1.tr o10
  have o8 := s9.1.tr o9
  have o7 := s8.1.tr o8
  have o6 := s7.1.tr o7
  have o5 := s6.1.tr o6
  have o4 := s5.1.tr o5
  have o3 := s4.1.tr o4
  have o2 := s3.1.tr o3
  have o1 := s2.1.tr o2
  have oo := s1.1.tr o1
  refine b_X11_init_126 (R' := Rm 0) ?_
  exact N_X11_1 hs hK 2 0 rfl m12 z12 (oo.mono (fun z _ h => Or.inl h)) ⟨h12, by rw [s12.2, if_neg (by decide), s11.2, if_neg (by decide), s10.2, if_neg (by decide), s9.2, if_neg (by decide), s8.2, if_neg (by decide), s7.2, if_neg (by decide), s6.2, if_neg (by decide), s5.2, if_neg (by decide), s4.2, if_neg (by decide), s3.2, if_neg (by decide), s2.2, if_neg (by decide), s1.2, if_pos rfl], by rw [s12.2, if_neg (by decide), s11.2, if_neg (by decide), s10.2, if_neg (by decide), s9.2, if_neg (by decide), s8.2, if_neg (by decide), s7.2, if_neg (by decide), s6.2, if_neg (by decide), s5.2, if_neg (by decide), s4.2, if_neg (by decide), s3.2, if_neg (by decide), s2.2, if_pos rfl], by rw [s12.2, if_neg (by decide), s11.2, if_neg (by decide), s10.2, if_neg (by decide), s9.2, if_neg (by decide), s8.2, if_neg (by decide), s7.2, if_neg (by decide), s6.2, if_neg (by decide), s5.2, if_neg (by decide), s4.2, if_pos rfl], (o4.2.1 _ (lt2_m z4 (by decide))).trans k4, by rw [s12.2, if_neg (by decide), s11.2, if_neg (by decide), s10.2, if_neg (by decide), s9.2, if_neg (by decide), s8.2, if_neg (by decide), s7.2, if_neg (by decide), s6.2, if_neg (by decide), s5.2, if_pos rfl], (o5.2.1 _ (lt2_m z5 (by decide))).trans k5, by rw [s12.2, if_neg (by decide), s11.2, if_neg (by decide), s10.2, if_neg (by decide), s9.2, if_neg (by decide), s8.2, if_neg (by decide), s7.2, if_neg (by decide), s6.2, if_pos rfl], (o6.2.1 _ (lt2_m z6 (by decide))).trans k6, by rw [s12.2, if_neg (by decide), s11.2, if_neg (by decide), s10.2, if_neg (by decide), s9.2, if_neg (by decide), s8.2, if_neg (by decide), s7.2, if_pos rfl], by rw [s12.2, if_neg (by decide), s11.2, if_neg (by decide), s10.2, if_neg (by decide), s9.2, if_neg (by decide), s8.2, if_pos rfl], by rw [s12.2, if_neg (by decide), s11.2, if_neg (by decide), s10.2, if_neg (by decide), s9.2, if_pos rfl], by rw [s12.2, if_neg (by decide), s11.2, if_neg (by decide), s10.2, if_pos rfl], by rw [s12.2, if_neg (by decide), s11.2, if_pos rfl], by rw [s12.2, if_pos rfl], by rw [s12.2, if_neg (by decide), s11.2, if_neg (by decide), s10.2, if_neg (by decide), s9.2, if_neg (by decide), s8.2, if_neg (by decide), s7.2, if_neg (by decide), s6.2, if_neg (by decide), s5.2, if_neg (by decide), s4.2, if_neg (by decide), s3.2, if_pos rfl], w1.ex o1 (le3_m z1 (by decide)) (ne1_m (by decide)), ⟨w2.1.ex o2 (le3_m z2 (by decide)) (ne1_m (by decide)), (o2.2.2.1 _ _ (lt2_m z2 (by decide)) (Nat.ne_of_gt (Nat.lt_add_of_pos_right (by decide)))).trans w2.2.1, w2.2.2.ex o2 (le4_m z2 (by decide)) (ne2_m (by decide))⟩, w3.ex o3 (le3_m z3 (by decide)) (ne1_m (by decide)), w7.ex o7 (le3_m z7 (by decide)) (ne1_m (by decide)), w8.ex o8 (le3_m z8 (by decide)) (ne1_m (by decide)), ⟨w9.1.ex o9 (le3_m z9 (by decide)) (ne1_m (by decide)), w9.2.ex o9 (le4_m z9 (by decide)) (ne2_m (by decide))⟩, ⟨w10.1.ex o10 (le3_m z10 (by decide)) (ne1_m (by decide)), w10.2.ex o10 (le4_m z10 (by decide)) (ne2_m (by decide))⟩, w11.ex o11 (le3_m z11 (by decide)) (ne1_m (by decide)), w12⟩ (fun k hk => absurd hk (Nat.not_lt_zero k)) (fun k hk => absurd hk (Nat.not_lt_zero k))
end P72
