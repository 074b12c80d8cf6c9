abbrev lkT (a b : Nat) : Prop := a = 1 ∨ a = b
/-- node i of the wide one may have d of the other, with those ahead of d told by t -/
def fitP (W O t : Nat → Nat) (d i : Nat) : Prop := (O d = 0 ∨ W i = 1) ∧ (∀ v, v < 3 → lkT (W (6 + 6 * v + i)) (O (6 + 6 * v + d))) ∧ lkT (W (24 + 6 * i + i)) (O (24 + 6 * d + d)) ∧ ∀ e, e < d → (t e ≠ i ∨ W i = 1) ∧ lkT (W (24 + 6 * i + t e)) (O (24 + 6 * d + e)) ∧ lkT (W (24 + 6 * t e + i)) (O (24 + 6 * e + d))
theorem fitP_cg {W O t t' : Nat → Nat} {d i : Nat} (h : ∀ e, e < d → t' e = t e) : fitP W O t' d i ↔ fitP W O t d i := by
  unfold fitP
  constructor
  · rintro ⟨h1, h2, h3, h4⟩
    exact ⟨h1, h2, h3, fun e he => by have := h4 e he; rw [h e he] at this; exact this⟩
  · rintro ⟨h1, h2, h3, h4⟩
    exact ⟨h1, h2, h3, fun e he => by rw [h e he]; exact h4 e he⟩
def Sol (W O t : Nat → Nat) : Prop := (∀ d, d < O 60 → t d < W 60 ∧ fitP W O t d (t d)) ∧ ∀ i, i < W 60 → ∃ d, d < O 60 ∧ t d = i
/-- there is a way to tell all nodes that goes on from t -/
def ext (W O : Nat → Nat) (j : Nat) (t : Nat → Nat) : Prop := ∃ t', (∀ e, e < j → t' e = t e) ∧ Sol W O t'
theorem ext_i {W O t : Nat → Nat} {j i : Nat} (h : ext W O (j + 1) (upd1 t j i)) : ext W O j t := by
  obtain ⟨t', h1, h2⟩ := h
  exact ⟨t', fun e he => by rw [h1 e (by omega), upd1_n (by omega)], h2⟩
theorem ext_s {W O t : Nat → Nat} {j : Nat} (hj : j < O 60) (h : ext W O j t) : ∃ i, i < W 60 ∧ fitP W O t j i ∧ ext W O (j + 1) (upd1 t j i) := by
  obtain ⟨t', h1, h2⟩ := h
  have h3 := h2.1 j hj
  refine ⟨t' j, h3.1, (fitP_cg h1).mp h3.2, t', fun e he => ?_, h2⟩
  by_cases q : e = j
  · subst q; rw [upd1_s]
  · rw [upd1_n q]; exact h1 e (by omega)
theorem ext_e {W O t : Nat → Nat} (h : ∀ d, d < O 60 → t d < W 60 ∧ fitP W O t d (t d)) : ext W O (O 60) t ↔ ∀ i, i < W 60 → ∃ d, d < O 60 ∧ t d = i := by
  constructor
  · rintro ⟨t', h1, h2⟩ i hi
    obtain ⟨d, hd, e⟩ := h2.2 i hi
    exact ⟨d, hd, by rw [← h1 d hd]; exact e⟩
  · intro h2
    exact ⟨t, fun _ _ => rfl, h, h2⟩
/-- how many of those ahead of j are told to i -/
def hv (t : Nat → Nat) (i : Nat) : Nat → Nat
  | 0 => 0
  | j + 1 => hv t i j + (if t j = i then 1 else 0)
theorem hv_cg {t t' : Nat → Nat} {i : Nat} : ∀ j, (∀ e, e < j → t' e = t e) → hv t' i j = hv t i j
  | 0, _ => rfl
  | j + 1, h => by unfold hv; rw [hv_cg j (fun e he => h e (by omega)), h j (by omega)]
theorem hv_le (t : Nat → Nat) (i : Nat) : ∀ j, hv t i j ≤ j
  | 0 => Nat.le_refl _
  | j + 1 => by
    have := hv_le t i j
    unfold hv
    split <;> omega
theorem hv_0 {t : Nat → Nat} {i : Nat} : ∀ j, hv t i j = 0 ↔ ∀ e, e < j → t e ≠ i
  | 0 => ⟨fun _ e he => absurd he (Nat.not_lt_zero _), fun _ => rfl⟩
  | j + 1 => by
    have ih := hv_0 (t := t) (i := i) j
    unfold hv
    constructor
    · intro h e he
      by_cases q : e = j
      · subst q
        intro w
        rw [if_pos w] at h
        omega
      · exact ih.mp (by omega) e (by omega)
    · intro h
      rw [if_neg (h j (by omega)), ih.mpr (fun e he => h e (by omega))]
theorem hv_u {t : Nat → Nat} {i j k : Nat} : hv (upd1 t j i) k (j + 1) = hv t k j + (if k = i then 1 else 0) := by
  show hv (upd1 t j i) k j + (if upd1 t j i j = k then 1 else 0) = _
  rw [hv_cg j (fun e he => upd1_n (by omega)), upd1_s]
  by_cases q : k = i
  · rw [if_pos q, if_pos q.symm]
  · rw [if_neg q, if_neg (Ne.symm q)]
/-- how many of the first m have none -/
def lck (t : Nat → Nat) (j : Nat) : Nat → Nat
  | 0 => 0
  | m + 1 => lck t j m + (if hv t m j = 0 then 1 else 0)
theorem lck_le (t : Nat → Nat) (j : Nat) : ∀ m, lck t j m ≤ m
  | 0 => Nat.le_refl _
  | m + 1 => by
    have := lck_le t j m
    unfold lck
    split <;> omega
theorem lck_cg {t t' : Nat → Nat} {j j' : Nat} : ∀ m, (∀ k, k < m → hv t' k j' = hv t k j) → lck t' j' m = lck t j m
  | 0, _ => rfl
  | m + 1, h => by unfold lck; rw [lck_cg m (fun k hk => h k (by omega)), h m (by omega)]
theorem lck_u {t : Nat → Nat} {i j : Nat} : ∀ m, i < m → lck t j m = lck (upd1 t j i) (j + 1) m + (if hv t i j = 0 then 1 else 0)
  | 0, h => absurd h (Nat.not_lt_zero _)
  | m + 1, h => by
    unfold lck
    by_cases q : i = m
    · subst q
      have e1 : lck (upd1 t j i) (j + 1) i = lck t j i := lck_cg i (fun k hk => by rw [hv_u, if_neg (by omega)]; rfl)
      have e2 : ¬ hv (upd1 t j i) i (j + 1) = 0 := by rw [hv_u, if_pos rfl]; omega
      rw [e1, if_neg e2, Nat.add_zero]
    · have e3 : hv (upd1 t j i) m (j + 1) = hv t m j := by rw [hv_u, if_neg (Ne.symm q)]; rfl
      have e4 := lck_u (t := t) (i := i) (j := j) m (by omega)
      rw [e4, e3, Nat.add_right_comm]
theorem lck_0 {t : Nat → Nat} {j : Nat} : ∀ m, lck t j m = 0 ↔ ∀ i, i < m → ∃ d, d < j ∧ t d = i
  | 0 => ⟨fun _ i hi => absurd hi (Nat.not_lt_zero _), fun _ => rfl⟩
  | m + 1 => by
    have ih := lck_0 (t := t) (j := j) m
    unfold lck
    constructor
    · intro h i hi
      by_cases q : i = m
      · subst q
        by_cases w : hv t i j = 0
        · rw [if_pos w] at h; omega
        · exact Decidable.byContradiction fun z => w ((hv_0 j).mpr (fun e he q => z ⟨e, he, q⟩))
      · exact ih.mp (by omega) i (by omega)
    · intro h
      obtain ⟨d, hd, e⟩ := h m (by omega)
      rw [ih.mpr (fun i hi => h i (by omega)), if_neg (fun w => (hv_0 j).mp w d hd e)]
/-- more cannot lack than are left -/
theorem lck_more {t : Nat → Nat} {j m : Nat} (hm : ∀ e, t e < m ∨ m ≤ t e) : lck t j m ≤ lck t (j + 1) m + 1 := by
  by_cases q : t j < m
  · have e := lck_u (t := t) (j := j) m q
    have c : lck (upd1 t j (t j)) (j + 1) m = lck t (j + 1) m := lck_cg m (fun k _ => hv_cg (j + 1) (fun e _ => by
      by_cases w : e = j
      · rw [w, upd1_s]
      · rw [upd1_n w]))
    rw [c] at e
    split at e <;> omega
  · have c : lck t (j + 1) m = lck t j m := lck_cg m (fun k hk => by
      show hv t k j + (if t j = k then 1 else 0) = _
      rw [if_neg (by omega)]; rfl)
    omega
theorem lck_far {t : Nat → Nat} {j m : Nat} : ∀ k, lck t j m ≤ lck t (j + k) m + k
  | 0 => Nat.le_refl _
  | k + 1 => by
    have := lck_far (t := t) (j := j) (m := m) k
    have := lck_more (t := t) (j := j + k) (m := m) (fun e => by omega)
    rw [show j + (k + 1) = j + k + 1 by omega]
    omega
theorem ext_lck {W O t : Nat → Nat} {j : Nat} (hj : j ≤ O 60) (h : ext W O j t) : lck t j (W 60) ≤ O 60 - j := by
  obtain ⟨t', h1, h2⟩ := h
  have e1 : lck t' j (W 60) = lck t j (W 60) := lck_cg _ (fun k _ => hv_cg j h1)
  have e2 : lck t' (O 60) (W 60) = 0 := (lck_0 _).mpr h2.2
  have e3 := lck_far (t := t') (j := j) (m := W 60) (O 60 - j)
  rw [show j + (O 60 - j) = O 60 by omega, e2] at e3
  omega
section P40
variable {X : cX} {d : Nat} {μ : mM} {K : Option Value → mM → Prop} {f : Nat → Nat → Int32} {a b c y : Nat} {W O t : Nat → Nat}
theorem allowsI {x z : Nat} (hx : x < 2 ^ 31) (hz : z < 2 ^ 31) : e_X0_allows μ (nI x) (nI z) = 0 ↔ ¬ lkT x z := by
  unfold e_X0_allows lkT
  have e1 : (nI x = (1 : Int32)) ↔ x = 1 := nI_eq (b := 1) hx (by decide)
  have e2 : (nI x = nI z) ↔ x = z := nI_eq hx hz
  have n1 : ¬ (1 : Int32) = 0 := by decide
  by_cases q : x = 1
  · rw [if_pos (e1.mpr q)]; simp [n1, q]
  · rw [if_neg (fun w => q (e1.mp w))]
    by_cases q2 : x = z
    · rw [if_pos (e2.mpr q2)]; simp [n1, q2]
    · rw [if_neg (fun w => q2 (e2.mp w))]; simp [q, q2]
theorem c_fits {i j : Nat} (hwa : WF5 μ a) (hwc : WF5 μ c) (hwb : WF0 μ b) (hs : Sh f a W) (ho : Sh f c O) (okW : okP W) (okO : okP O) (hi : i < 6) (hj : j < 6) (ht : ∀ e, e < j → f (b + 1) e = nI (t e) ∧ t e < 6) (hh : f (b + 2) i = nI (hv t i j)) (hK : ∀ r, r ≤ 1 → (r = 1 ↔ fitP W O t j i) → K (some (.int (nI r))) (sI μ f)) : Ct X (Rm (d + 1)) mX0_fits [.ref b, .ref a, .ref c, .int (nI j), .int (nI i)] (sI μ f) K := by
  have No : ¬ fitP W O t j i → K (some (.int 0)) (sI μ f) := fun h => hK 0 (by decide) ⟨fun q => absurd q (by decide), fun q => absurd q h⟩
  have lw := okW.2.1 i hi
  have lo := okO.2.1 j hj
  have e1 : iv (sI μ f) (a + 1) i = nI (W i) := hs.2.1 i hi
  have e2 : iv (sI μ f) (c + 1) j = nI (O j) := ho.2.1 j hj
  have e3 : iv (sI μ f) (b + 2) i = nI (hv t i j) := hh
  have hvl := hv_le t i j
  have H3 : ((O j = 0 ∨ W i = 1) ∧ (∀ v, v < 3 → lkT (W (6 + 6 * v + i)) (O (6 + 6 * v + j))) ∧ lkT (W (24 + 6 * i + i)) (O (24 + 6 * j + j))) → (∀ e, e < j → t e ≠ i ∨ W i = 1) → ∀ p, p ≤ j → (∀ e, e < p → lkT (W (24 + 6 * i + t e)) (O (24 + 6 * j + e)) ∧ lkT (W (24 + 6 * t e + i)) (O (24 + 6 * e + j))) → G X (Rm (d + 1)) mX0_fits 102 [(0, .ref b), (1, .ref a), (2, .ref c), (3, .int (nI j)), (4, .int (nI i)), (5, .int (nI p))] [] (sI μ f) 0 0 K := by
    intro h1 h2
    refine dn j ?_ ?_
    · intro h3
      refine b_X0_fits_102 (j0 := 0) (hK := fun _ => hK 1 (by decide) ⟨fun _ => ⟨h1.1, h1.2.1, h1.2.2, fun e he => ⟨h2 e he, h3 e he⟩⟩, fun _ => rfl⟩) (hw0_r0 := hwb) (hb := ?_) (hw5_r1 := hwa) (hb_2 := ?_) (hi_j0 := ?_) (hb_3 := ?_) (hw5_r2 := hwc) (hb_4 := ?_) (hK_2 := ?_) (hi_j0_2 := ?_) (hb_5 := ?_) (hb_6 := ?_) (hb_7 := ?_) (hb_8 := ?_) (h := ?_) (hK_3 := ?_) <;> (intro z; exact absurd (le_r _) z)
    · intro p hp ih h3
      have tp := ht p hp
      have x1 : iv (sI μ f) (a + 7 + i) (t p) = nI (W (24 + 6 * i + t p)) := hs.2.2.2 i (t p) hi tp.2
      have x2 : iv (sI μ f) (c + 7 + j) p = nI (O (24 + 6 * j + p)) := ho.2.2.2 j p hj (by omega)
      have x3 : iv (sI μ f) (a + 7 + t p) i = nI (W (24 + 6 * t p + i)) := hs.2.2.2 (t p) i tp.2 hi
      have x4 : iv (sI μ f) (c + 7 + p) j = nI (O (24 + 6 * p + j)) := ho.2.2.2 p j (by omega) hj
      have y1 := okW.2.2.2.1 i (t p) hi tp.2
      have y2 := okO.2.2.2.1 j p hj (by omega)
      have y3 := okW.2.2.2.1 (t p) i tp.2 hi
      have y4 := okO.2.2.2.1 p j (by omega) hj
      have a1 : e_X0_allows (sI μ f) (iv (sI μ f) (a + 7 + i) (t p)) (iv (sI μ f) (c + 7 + j) p) = 0 ↔ ¬ lkT (W (24 + 6 * i + t p)) (O (24 + 6 * j + p)) := by rw [x1, x2]; exact allowsI (by omega) (by omega)
      have a2 : e_X0_allows (sI μ f) (iv (sI μ f) (a + 7 + t p) i) (iv (sI μ f) (c + 7 + p) j) = 0 ↔ ¬ lkT (W (24 + 6 * t p + i)) (O (24 + 6 * p + j)) := by rw [x3, x4]; exact allowsI (by omega) (by omega)
      refine b_X0_fits_102 (j0 := t p) (hK := fun z => absurd z (ge_c hp (by omega))) (hw0_r0 := hwb) (hb := fun _ => by omega) (hw5_r1 := hwa) (hb_2 := fun _ => hi) (hi_j0 := fun _ => tp.1) (hb_3 := fun _ => tp.2) (hw5_r2 := hwc) (hb_4 := fun _ => hj) (hK_2 := fun _ z => No (fun w => (a1.mp z) ((w.2.2.2 p hp).2.1))) (hi_j0_2 := fun _ _ => tp.1) (hb_5 := fun _ _ => tp.2) (hb_6 := fun _ _ => hi) (hb_7 := fun _ _ => by omega) (hb_8 := fun _ _ => hj) (h := fun _ z1 z2 => ih (fun e he => ?_)) (hK_3 := fun _ _ z => No (fun w => (a2.mp z) ((w.2.2.2 p hp).2.2)))
      by_cases q : e = p
      · subst q
        exact ⟨Decidable.byContradiction fun w => z1 (a1.mpr w), Decidable.byContradiction fun w => z2 (a2.mpr w)⟩
      · exact h3 e (by omega)
  have H2 : (O j = 0 ∨ W i = 1) → (∀ e, e < j → t e ≠ i ∨ W i = 1) → ∀ v, v ≤ 3 → (∀ u, u < v → lkT (W (6 + 6 * u + i)) (O (6 + 6 * u + j))) → G X (Rm (d + 1)) mX0_fits 34 [(0, .ref b), (1, .ref a), (2, .ref c), (3, .int (nI j)), (4, .int (nI i)), (5, .int (nI v))] [] (sI μ f) 0 0 K := by
    intro h1 h2
    refine dn 3 ?_ ?_
    · intro h3
      have x1 : iv (sI μ f) (a + 7 + i) i = nI (W (24 + 6 * i + i)) := hs.2.2.2 i i hi hi
      have x2 : iv (sI μ f) (c + 7 + j) j = nI (O (24 + 6 * j + j)) := ho.2.2.2 j j hj hj
      have y1 := okW.2.2.2.1 i i hi hi
      have y2 := okO.2.2.2.1 j j hj hj
      have a1 : e_X0_allows (sI μ f) (iv (sI μ f) (a + 7 + i) i) (iv (sI μ f) (c + 7 + j) j) = 0 ↔ ¬ lkT (W (24 + 6 * i + i)) (O (24 + 6 * j + j)) := by rw [x1, x2]; exact allowsI (by omega) (by omega)
      refine b_X0_fits_34 (hw5_r1 := hwa) (hb := fun _ => hi) (hw5_r2 := hwc) (hb_2 := fun _ => hj) (h := fun _ z => H3 ⟨h1, h3, Decidable.byContradiction fun w => z (a1.mpr w)⟩ h2 0 (Nat.zero_le _) (fun e he => absurd he (Nat.not_lt_zero _))) (hK := fun _ z => No (fun w => (a1.mp z) w.2.2.1)) (hb_3 := ?_) (hb_4 := ?_) (hb_5 := ?_) (h_2 := ?_) (hK_2 := ?_) <;> (intro z; exact absurd (le_r _) z)
    · intro v hv3 ih h3
      have x1 : iv (sI μ f) (a + 3 + v) i = nI (W (6 + 6 * v + i)) := hs.2.2.1 v i hv3 hi
      have x2 : iv (sI μ f) (c + 3 + v) j = nI (O (6 + 6 * v + j)) := ho.2.2.1 v j hv3 hj
      have y1 := okW.2.2.1 v i hv3 hi
      have y2 := okO.2.2.1 v j hv3 hj
      have a1 : e_X0_allows (sI μ f) (iv (sI μ f) (a + 3 + v) i) (iv (sI μ f) (c + 3 + v) j) = 0 ↔ ¬ lkT (W (6 + 6 * v + i)) (O (6 + 6 * v + j)) := by rw [x1, x2]; exact allowsI (by omega) (by omega)
      refine b_X0_fits_34 (hw5_r1 := hwa) (hb := fun z => absurd z (ge_c (n := 3) hv3 (by decide))) (hw5_r2 := hwc) (hb_2 := fun z => absurd z (ge_c (n := 3) hv3 (by decide))) (h := fun z => absurd z (ge_c (n := 3) hv3 (by decide))) (hK := fun z => absurd z (ge_c (n := 3) hv3 (by decide))) (hb_3 := fun _ => hv3) (hb_4 := fun _ => hi) (hb_5 := fun _ => hj) (h_2 := fun _ z => ih (fun u hu => ?_)) (hK_2 := fun _ z => No (fun w => (a1.mp z) (w.2.1 v hv3)))
      by_cases q : u = v
      · subst q; exact Decidable.byContradiction fun w => z (a1.mpr w)
      · exact h3 u (by omega)
  refine Ct_of rfl (Nat.le_of_ble_eq_true rfl) (b_X0_fits_0 (hw5_r1 := hwa) (hb := hi) (h := fun z => b_X0_fits_31 (H2 ?_ ?_ 0 (Nat.zero_le _) (fun u hu => absurd hu (Nat.not_lt_zero _)))) (hw5_r2 := hwc) (hb_2 := fun _ => hj) (hK := fun z1 z2 => No (fun w => ?_)) (hw0_r0 := hwb) (hb_3 := fun _ _ => hi) (h_2 := fun z1 z2 z3 => b_X0_fits_31 (H2 ?_ ?_ 0 (Nat.zero_le _) (fun u hu => absurd hu (Nat.not_lt_zero _)))) (hK_2 := fun z1 z2 z3 => No (fun w => ?_)))
  · rw [e1, nI_z (by omega)] at z; right; omega
  · rw [e1, nI_z (by omega)] at z; intro e he; right; omega
  · rw [e1, nI_z (by omega)] at z1
    rw [e2, nI_z (by omega)] at z2
    have := w.1
    omega
  · rw [e2, nI_z (by omega)] at z2; exact Or.inl z2
  · rw [e3] at z3
    have z4 : hv t i j ≤ 0 := (nI_leI (b := 0) (by omega) (by decide)).mp z3
    exact fun e he => Or.inl ((hv_0 j).mp (by omega) e he)
  · rw [e1, nI_z (by omega)] at z1
    rw [e3] at z3
    have z4 : ¬ hv t i j ≤ 0 := fun q => z3 ((nI_leI (b := 0) (by omega) (by decide)).mpr q)
    exact z4 (Nat.le_of_eq ((hv_0 j).mpr (fun e he => by
      rcases (w.2.2.2 e he).1 with q | q
      · exact q
      · omega)))
theorem Ct_a5 {R : Room} {M : Md} {v1 v2 v3 v4 : Value} {x x' : Int32} (h : x = x') (hc : Ct X R M [v1, v2, v3, v4, .int x'] μ K) : Ct X R M [v1, v2, v3, v4, .int x] μ K := by
  subst h; exact hc
/-- the class's cover at b with those ahead of j told by t -/
def CV (f : Nat → Nat → Int32) (b j : Nat) (t : Nat → Nat) : Prop := (∀ e, e < j → f (b + 1) e = nI (t e)) ∧ ∀ i, i < 6 → f (b + 2) i = nI (hv t i j)
theorem c_tell (hwa : WF5 μ a) (hwc : WF5 μ c) (hwb : WF0 μ b) (hab : a + 24 ≤ b ∨ b + 3 ≤ a) (hcb : c + 24 ≤ b ∨ b + 3 ≤ c) (okW : okP W) (okO : okP O) : ∀ k j, j + k = O 60 → ∀ (t : Nat → Nat) (f : Nat → Nat → Int32) (K : Option Value → mM → Prop), Sh f a W → Sh f c O → CV f b j t → (∀ e, e < j → t e < W 60 ∧ fitP W O t e (t e)) → (∀ f' r, (∀ z, z ≠ b + 1 → z ≠ b + 2 → ∀ q, f' z q = f z q) → CV f' b j t → r ≤ 1 → (r = 1 ↔ ext W O j t) → K (some (.int (nI r))) (sI μ f')) → Ct X (Rm (d + k + 2)) mX0_tellFrom [.ref b, .ref a, .ref c, .int (nI j), .int (nI (lck t j (W 60)))] (sI μ f) K := by
  have hW := okW.1
  have hO := okO.1
  intro k
  induction k with
  | zero =>
    intro j hj t f K hs ho hc ht hK
    have ej : j = O 60 := by omega
    subst ej
    have e0 : iv (sI μ f) c 0 = nI (O 60) := ho.1
    have ll := lck_le t (O 60) (W 60)
    have E := ext_e ht
    rw [← lck_0] at E
    have T : G X (Rm (d + 0 + 2)) mX0_tellFrom 14 [(4, .int (nI (lck t (O 60) (W 60))))] [] (sI μ f) 0 0 K := by
      refine b_X0_tellFrom_14 (hK := fun z => hK f 0 (fun _ _ _ _ => rfl) hc (by decide) ⟨fun q => absurd q (by decide), fun q => ?_⟩) (hK_2 := fun z => hK f 1 (fun _ _ _ _ => rfl) hc (by decide) ⟨fun _ => ?_, fun _ => rfl⟩)
      · exact absurd (by rw [E.mp q]; rfl) z
      · exact E.mpr ((nI_z (by omega)).mp z)
    refine Ct_of rfl (Nat.le_of_ble_eq_true rfl) (b_X0_tellFrom_0 (hw5_r2 := hwc) (h := fun _ => T) (h_2 := ?_) (hK := ?_) (h_3 := ?_)) <;> (intro z; rw [e0] at z; exact absurd (le_r _) z)
  | succ k ihk =>
    intro j hj t f K hs ho hc ht hK
    have e0 : iv (sI μ f) c 0 = nI (O 60) := ho.1
    have ll := lck_le t j (W 60)
    have es : iv (sI μ f) c 0 - nI j = nI (O 60 - j) := by rw [e0]; exact pk_sub (by omega)
    have nle : ¬ iv (sI μ f) c 0 ≤ nI j := by rw [e0]; exact ge_c (by omega) (by omega)
    have l6 : nI j < (6 : Int32) := nI_lt (b := 6) (by omega) (by decide)
    -- the nodes of the wide one
    have H : ∀ i, i ≤ W 60 → ∀ g, (∀ z, z ≠ b + 1 → z ≠ b + 2 → ∀ q, g z q = f z q) → CV g b j t → (∀ i', i' < i → ¬ (fitP W O t j i' ∧ ext W O (j + 1) (upd1 t j i'))) → G X (Rm (d + (k + 1) + 2)) mX0_tellFrom 41 [(0, .ref b), (1, .ref a), (2, .ref c), (3, .int (nI j)), (4, .int (nI (lck t j (W 60)))), (5, .int (nI i))] [] (sI μ g) 0 0 K := by
      have sg : ∀ g, (∀ z, z ≠ b + 1 → z ≠ b + 2 → ∀ q, g z q = f z q) → Sh g a W := fun g h => hs.fr (fun z h1 h2 q => h z (by omega) (by omega) q)
      have og : ∀ g, (∀ z, z ≠ b + 1 → z ≠ b + 2 → ∀ q, g z q = f z q) → Sh g c O := fun g h => ho.fr (fun z h1 h2 q => h z (by omega) (by omega) q)
      refine dn (W 60) ?_ ?_
      · intro g q1 q2 q3
        have e1 : iv (sI μ g) a 0 = nI (W 60) := (sg g q1).1
        refine b_X0_tellFrom_41 (hw5_r1 := hwa) (hK := fun _ => hK g 0 q1 q2 (by decide) ⟨fun q => absurd q (by decide), fun q => ?_⟩) (hw0_r0 := hwb) (hc_fits := fun z => absurd (by rw [e1]; exact le_r _) z)
        obtain ⟨i, hi, h1, h2⟩ := ext_s (by omega) q
        exact absurd ⟨h1, h2⟩ (q3 i hi)
      · intro i hi ih g q1 q2 q3
        have e1 : iv (sI μ g) a 0 = nI (W 60) := (sg g q1).1
        refine b_X0_tellFrom_41 (hw5_r1 := hwa) (hK := fun z => absurd z (by rw [e1]; exact ge_c hi (by omega))) (hw0_r0 := hwb) (hc_fits := fun _ => ?_)
        refine c_fits (d := d + k + 1) hwa hwc hwb (sg g q1) (og g q1) okW okO (by omega) (by omega) (fun e he => ⟨q2.1 e he, by have := (ht e he).1; omega⟩) (q2.2 i (by omega)) (fun r hr er => ?_)
        have Nx : ∀ g', (∀ z, z ≠ b + 1 → z ≠ b + 2 → ∀ q, g' z q = f z q) → CV g' b j t → ¬ (fitP W O t j i ∧ ext W O (j + 1) (upd1 t j i)) → G X (Rm (d + (k + 1) + 2)) mX0_tellFrom 130 [(0, .ref b), (1, .ref a), (2, .ref c), (3, .int (nI j)), (4, .int (nI (lck t j (W 60)))), (5, .int (nI i))] [] (sI μ g') 0 0 K := fun g' w1 w2 w3 => b_X0_tellFrom_130 (ih g' w1 w2 (fun i' hi' => by
          by_cases q : i' = i
          · rw [q]; exact w3
          · exact q3 i' (by omega)))
        refine b_X0_tellFrom_59 (h := fun z => Nx g q1 q2 (fun w => ?_)) (hw0_r0 := hwb) (hb := fun _ => by omega) (hb_2 := fun _ => by omega) (h_2 := fun z1 z2 => ?_) (h_3 := fun z1 z2 => ?_)
        · rw [nI_z (by omega)] at z
          have := er.mpr w.1
          omega
        all_goals
          have hfit : fitP W O t j i := by
            rw [nI_z (by omega)] at z1
            exact er.mp (by omega)
          have hvl := hv_le t i j
          have c1 : u2 g (b + 1) j (nI i) (b + 2) i = nI (hv t i j) := by rw [u2_x (by omega)]; exact q2.2 i (by omega)
          rw [wi_sI, iv_sI, c1, nI_1, wi_sI] at z2 ⊢
          rw [iv_sI, u2_s] at z2
          have z3 : (nI (hv t i j + 1) = (1 : Int32)) ↔ hv t i j + 1 = 1 := nI_eq (b := 1) (by omega) (by decide)
          rw [z3] at z2
          have lu := lck_u (t := t) (j := j) (W 60) hi
          -- the call
          refine b_X0_tellFrom_107 (hw0_q0 := hwb) (hc_tellFrom := ?_)
          have cv1 : CV (u2 (u2 g (b + 1) j (nI i)) (b + 2) i (nI (hv t i j + 1))) b (j + 1) (upd1 t j i) := by
            refine ⟨fun e he => ?_, fun i' hi' => ?_⟩
            · rw [u2_x (by omega)]
              by_cases q : e = j
              · subst q; rw [u2_s, upd1_s]
              · rw [u2_k q, upd1_n q]; exact q2.1 e (by omega)
            · rw [hv_u]
              by_cases q : i' = i
              · subst q; rw [u2_s, if_pos rfl]
              · rw [u2_k q, u2_x (by omega), if_neg q]; exact q2.2 i' hi'
          have fr1 : ∀ z, z ≠ b + 1 → z ≠ b + 2 → ∀ q, (u2 (u2 g (b + 1) j (nI i)) (b + 2) i (nI (hv t i j + 1))) z q = f z q := fun z h1 h2 q => by rw [u2_x h2, u2_x h1]; exact q1 z h1 h2 q
          have el : nI (lck (upd1 t j i) (j + 1) (W 60)) = nI (lck (upd1 t j i) (j + 1) (W 60)) := rfl
          have ht1 : ∀ e, e < j + 1 → upd1 t j i e < W 60 ∧ fitP W O (upd1 t j i) e (upd1 t j i e) := fun e he => by
            by_cases q : e = j
            · subst q
              rw [upd1_s]
              exact ⟨hi, (fitP_cg (fun e' he' => upd1_n (by omega))).mpr hfit⟩
            · rw [upd1_n q]
              exact ⟨(ht e (by omega)).1, (fitP_cg (fun e' he' => upd1_n (by omega))).mpr (ht e (by omega)).2⟩
          have call := ihk (j + 1) (by omega) (upd1 t j i) _ (fun r μ2 => G X (Rm (d + (k + 1) + 2)) mX0_tellFrom 110 [(0, .ref b), (1, .ref a), (2, .ref c), (3, .int (nI j)), (4, .int (nI (lck t j (W 60)))), (5, .int (nI i))] (r.toList ++ []) μ2 0 0 K) (sg _ fr1) (og _ fr1) cv1 ht1 (fun f2 r2 w1 w2 w3 w4 => by
            have c2 : iv (sI μ f2) (b + 2) i - 1 = nI (hv t i j) := by
              have := w2.2 i (by omega)
              rw [hv_u, if_pos rfl] at this
              rw [iv_sI, this, nI_pred]
            have cv2 : CV (u2 f2 (b + 2) i (nI (hv t i j))) b j t := by
              refine ⟨fun e he => ?_, fun i' hi' => ?_⟩
              · rw [u2_x (by omega), w2.1 e (by omega), upd1_n (by omega)]
              · by_cases q : i' = i
                · subst q; rw [u2_s]
                · rw [u2_k q, w2.2 i' hi', hv_u, if_neg q]; rfl
            have fr2 : ∀ z, z ≠ b + 1 → z ≠ b + 2 → ∀ q, (u2 f2 (b + 2) i (nI (hv t i j))) z q = f z q := fun z h1 h2 q => by rw [u2_x h2, w1 z h1 h2]; exact fr1 z h1 h2 q
            refine b_X0_tellFrom_110 (hw0_r0 := hwb) (hb := by omega) (h := fun z => ?_) (hK := fun z => ?_)
            · rw [c2, wi_sI]
              refine Nx _ fr2 cv2 (fun w => ?_)
              have := w4.mpr w.2
              rw [nI_z (by omega)] at z
              omega
            · rw [c2, wi_sI]
              rw [nI_z (by omega)] at z
              exact hK _ 1 fr2 cv2 (by decide) ⟨fun _ => ext_i (w4.mp (by omega)), fun _ => rfl⟩)
          rw [nI_1]
          first
          | (have n0 : ¬ hv t i j = 0 := by omega
             rw [if_neg n0] at lu
             exact Ct_a5 (congrArg nI lu) call)
          | (have n0 : hv t i j = 0 := by omega
             rw [if_pos n0] at lu
             exact Ct_a5 (show nI (lck t j (W 60)) - 1 = nI (lck (upd1 t j i) (j + 1) (W 60)) by rw [lu, nI_pred]) call)
    refine Ct_of rfl (Nat.le_of_ble_eq_true rfl) (b_X0_tellFrom_0 (hw5_r2 := hwc) (h := fun z => absurd z nle) (h_2 := fun _ _ _ => H 0 (Nat.zero_le _) f (fun _ _ _ _ => rfl) hc (fun i' hi' => absurd hi' (Nat.not_lt_zero _))) (hK := fun _ _ z => hK f 0 (fun _ _ _ _ => rfl) hc (by decide) ⟨fun q => absurd q (by decide), fun q => ?_⟩) (h_3 := fun _ z => absurd l6 z))
    have := ext_lck (by omega) q
    exact absurd (by rw [es]; exact nI_le this (by omega)) z
theorem c_holds (hwa : WF5 μ a) (hwc : WF5 μ c) (hwb : WF0 μ b) (hab : a + 24 ≤ b ∨ b + 3 ≤ a) (hcb : c + 24 ≤ b ∨ b + 3 ≤ c) (okW : okP W) (okO : okP O) (hs : Sh f a W) (ho : Sh f c O) (hK : ∀ f' r, (∀ z, z ≠ b + 1 → z ≠ b + 2 → ∀ q, f' z q = f z q) → r ≤ 1 → (r = 1 ↔ ext W O 0 W) → K (some (.int (nI r))) (sI μ f')) : Ct X (Rm (d + 9)) mX0_holds [.ref b, .ref a, .ref c] (sI μ f) K := by
  have hO := okO.1
  refine Ct_of rfl (Nat.le_of_ble_eq_true rfl) (b_X0_holds_0 hwb (c_fill (w0_k1 hwb) (by decide) ?_))
  have fr : ∀ z, z ≠ b + 1 → z ≠ b + 2 → ∀ q, flI f (b + 2) 6 0 z q = f z q := fun z _ h q => flI_x h
  have s1 : Sh (flI f (b + 2) 6 0) a W := hs.fr (fun z h1 h2 q => fr z (by omega) (by omega) q)
  have o1 : Sh (flI f (b + 2) 6 0) c O := ho.fr (fun z h1 h2 q => fr z (by omega) (by omega) q)
  refine b_X0_holds_8 hwa hwb ?_
  have e1 : iv (sI μ (flI f (b + 2) 6 0)) a 0 = nI (lck W 0 (W 60)) := by
    have e2 : ∀ m, lck W 0 m = m := fun m => by
      induction m with
      | zero => rfl
      | succ m ih => show lck W 0 m + (if (0 : Nat) = 0 then 1 else 0) = _; rw [ih, if_pos rfl]
    rw [e2]
    exact s1.1
  rw [e1]
  have call := c_tell (X := X) (d := d + (6 - O 60)) (μ := μ) (a := a) (b := b) (c := c) hwa hwc hwb hab hcb okW okO (O 60) 0 (by omega) W (flI f (b + 2) 6 0) (fun r μ2 => G X (Rm (d + 9)) mX0_holds 19 [] (r.toList ++ []) μ2 0 0 K) s1 o1 ⟨fun e he => absurd he (Nat.not_lt_zero _), fun i hi => flI_s hi⟩ (fun e he => absurd he (Nat.not_lt_zero _)) (fun f' r w1 w2 w3 w4 => b_X0_holds_19 (hK f' r (fun z h1 h2 q => (w1 z h1 h2 q).trans (fr z h1 h2 q)) w3 w4) (b01 w3))
  rw [show d + (6 - O 60) + O 60 + 2 = d + 8 by omega] at call
  exact call
end P40
