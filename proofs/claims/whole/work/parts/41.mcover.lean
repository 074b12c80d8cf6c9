theorem nI_or (a b : Nat) : nI a ||| nI b = nI (a ||| b) := by
  apply Int32.toBitVec_inj.mp
  show BitVec.ofNat 32 a ||| BitVec.ofNat 32 b = BitVec.ofNat 32 (a ||| b)
  exact (BitVec.ofNat_or ..).symm
theorem sh1 : ∀ x, x < 7 → (1 : Int32) <<< (nI x &&& 31) = nI (2 ^ x) := by decide
/-- the nodes that have one, as bits -/
def bm (t : Nat → Nat) : Nat → Nat
  | 0 => 0
  | k + 1 => bm t k ||| 2 ^ t k
theorem bm_bit {t : Nat → Nat} {i : Nat} : ∀ k, (bm t k).testBit i = true ↔ ∃ d, d < k ∧ t d = i
  | 0 => by
    show (0 : Nat).testBit i = true ↔ _
    rw [Nat.zero_testBit]
    exact ⟨fun h => absurd h (by decide), fun ⟨d, hd, _⟩ => absurd hd (Nat.not_lt_zero _)⟩
  | k + 1 => by
    show (bm t k ||| 2 ^ t k).testBit i = true ↔ _
    rw [Nat.testBit_or, Bool.or_eq_true, bm_bit k, Nat.testBit_two_pow, decide_eq_true_eq]
    constructor
    · rintro (⟨d, hd, e⟩ | h)
      · exact ⟨d, by omega, e⟩
      · exact ⟨k, by omega, h⟩
    · rintro ⟨d, hd, e⟩
      by_cases q : d = k
      · subst q; exact Or.inr e
      · exact Or.inl ⟨d, by omega, e⟩
theorem bm_lt {t : Nat → Nat} {m : Nat} : ∀ k, (∀ d, d < k → t d < m) → bm t k < 2 ^ m
  | 0, _ => Nat.pos_of_ne_zero (by exact Nat.pos_iff_ne_zero.mp (Nat.two_pow_pos m))
  | k + 1, h => Nat.or_lt_two_pow (bm_lt k (fun d hd => h d (by omega))) (Nat.pow_lt_pow_right (by decide) (h k (by omega)))
theorem bm_all {t : Nat → Nat} {m k : Nat} (h : ∀ d, d < k → t d < m) : bm t k = 2 ^ m - 1 ↔ ∀ i, i < m → ∃ d, d < k ∧ t d = i := by
  constructor
  · intro e i hi
    refine (bm_bit k).mp ?_
    rw [e, Nat.testBit_two_pow_sub_one, decide_eq_true hi]
  · intro ha
    apply Nat.eq_of_testBit_eq
    intro i
    rw [Nat.testBit_two_pow_sub_one]
    by_cases q : i < m
    · rw [decide_eq_true q]; exact (bm_bit k).mpr (ha i q)
    · rw [decide_eq_false q]
      cases hb : (bm t k).testBit i with
      | false => rfl
      | true =>
        obtain ⟨d, hd, e⟩ := (bm_bit k).mp hb
        have := h d hd
        omega
section P41
variable {X : cX} {d : Nat} {μ : mM} {K : Option Value → mM → Prop} {f : Nat → Nat → Int32} {a b c y : Nat} {W O t : Nat → Nat} {P Q : Nat}
theorem likeI {x z : Nat} (hx : x < 2 ^ 31) (hz : z < 2 ^ 31) : e_X12_isLike μ y (nI x) (nI z) = 0 ↔ ¬ lkT x z := by
  unfold e_X12_isLike
  have e1 : (nI x = (1 : Int32)) ↔ x = 1 := nI_eq (b := 1) hx (by decide)
  have e2 : (nI x = nI z) ↔ x = z := nI_eq hx hz
  have n1 : ¬ (1 : Int32) = 0 := by decide
  by_cases q : x = 1
  · rw [if_pos (e1.mpr q)]; simp [n1, q]
  · rw [if_neg (fun w => q (e1.mp w))]
    by_cases q2 : x = z
    · rw [if_pos (e2.mpr q2)]; simp [n1, q2]
    · rw [if_neg (fun w => q2 (e2.mp w))]; simp [q, q2]
theorem ixP6 {v i : Nat} : nI P + 6 + 6 * nI v + nI i = nI (P + (6 + 6 * v + i)) := by
  rw [show (6 : Int32) = nI 6 from rfl, pk_mul, nI_add, nI_add, nI_add]
  congr 1; omega
theorem ixP24 {v i : Nat} : nI P + 24 + 6 * nI v + nI i = nI (P + (24 + 6 * v + i)) := by
  rw [show (6 : Int32) = nI 6 from rfl, show (24 : Int32) = nI 24 from rfl, pk_mul, nI_add, nI_add, nI_add]
  congr 1; omega
theorem m_isFitting {i j : Nat} (hw : WF12 μ y) (hP : P + 61 ≤ 366) (hQ : Q + 61 ≤ 366) (hs : Pg f y P W) (ho : Pg f y Q O) (okW : okP W) (okO : okP O) (hi : i < 6) (hj : j < 6) (ht : ∀ e, e < j → f (y + 13) e = nI (t e) ∧ t e < 6) (hd : f (y + 13) j = nI i) (hK : ∀ r, r ≤ 1 → (r = 1 ↔ fitP W O t j i) → K (some (.int (nI r))) (sI μ f)) : Ct X (Rm (d + 1)) mX12_isFitting [.ref y, .int (nI P), .int (nI Q), .int (nI j)] (sI μ f) K := by
  have lw := okW.2.1 i hi
  have lo := okO.2.1 j hj
  have mi : iv (sI μ f) (y + 13) j = nI i := hd
  have eo : iv (sI μ f) (y + 1) (Q + j) = nI (O j) := ho j (by omega)
  have ew : iv (sI μ f) (y + 1) (P + i) = nI (W i) := hs i (by omega)
  have w1 : (iv (sI μ f) (y + 1) (P + i) = (1 : Int32)) ↔ W i = 1 := by rw [ew]; exact nI_eq (b := 1) (by omega) (by decide)
  have mt : ∀ e, e ≤ j → iv (sI μ f) (y + 13) e = nI (upd1 t j i e) ∧ upd1 t j i e < 6 := fun e he => by
    by_cases q : e = j
    · subst q; rw [upd1_s]; exact ⟨mi, hi⟩
    · rw [upd1_n q]; exact ht e (by omega)
  have Cd : ∀ e, e ≤ j → Prop := fun e _ => True
  -- the pairs
  have H3 : ∀ e, e ≤ j + 1 → ∀ s, s ≤ 1 → (s = 1 ↔ ((O j = 0 ∨ W i = 1) ∧ (∀ v, v < 3 → lkT (W (6 + 6 * v + i)) (O (6 + 6 * v + j))) ∧ ∀ e', e' < e → (e' = j ∨ upd1 t j i e' ≠ i ∨ W i = 1) ∧ lkT (W (24 + 6 * i + upd1 t j i e')) (O (24 + 6 * j + e')) ∧ lkT (W (24 + 6 * upd1 t j i e' + i)) (O (24 + 6 * e' + j)))) → G X (Rm (d + 1)) mX12_isFitting 111 [(0, .ref y), (1, .int (nI P)), (2, .int (nI Q)), (3, .int (nI j)), (4, .int (nI s)), (5, .int (nI e))] [] (sI μ f) 0 0 K := by
    refine dn (j + 1) ?_ ?_
    · intro s hs1 hs2
      refine b_X12_isFitting_111 (j0 := 0) (hK := fun _ => hK s hs1 ?_) (hz := fun _ => b01 hs1) (h := ?_) (h_2 := ?_) (hw12_r0 := hw) (hb := ?_) (hb_2 := ?_) (h_3 := ?_) (hb_3 := ?_) (hi_j0 := ?_) (hb_4 := ?_) (h_4 := ?_) (h_5 := ?_)
      · rw [hs2]
        constructor
        · rintro ⟨q1, q2, q3⟩
          have qj := q3 j (by omega)
          rw [upd1_s] at qj
          refine ⟨q1, q2, qj.2.1, fun e he => ?_⟩
          have qe := q3 e (by omega)
          rw [upd1_n (by omega)] at qe
          exact ⟨by rcases qe.1 with z | z | z
                    · omega
                    · exact Or.inl z
                    · exact Or.inr z, qe.2⟩
        · rintro ⟨q1, q2, q3, q4⟩
          refine ⟨q1, q2, fun e he => ?_⟩
          by_cases q : e = j
          · subst q
            rw [upd1_s]
            exact ⟨Or.inl rfl, q3, q3⟩
          · rw [upd1_n q]
            exact ⟨Or.inr (q4 e (by omega)).1, (q4 e (by omega)).2⟩
      all_goals (intro z; exact absurd (nI_lt (by omega) (by omega)) z)
    · intro e he ih s hs1 hs2
      have me := mt e (by omega)
      have ej : (nI e = nI j) ↔ e = j := nI_eq (by omega) (by omega)
      have em : (iv (sI μ f) (y + 13) e = iv (sI μ f) (y + 13) j) ↔ upd1 t j i e = i := by rw [me.1, mi]; exact nI_eq (by omega) (by omega)
      have x1 : iv (sI μ f) (y + 1) (P + (24 + 6 * i + upd1 t j i e)) = nI (W (24 + 6 * i + upd1 t j i e)) := hs _ (by omega)
      have x2 : iv (sI μ f) (y + 1) (Q + 24 + 6 * j + e) = nI (O (24 + 6 * j + e)) := by rw [show Q + 24 + 6 * j + e = Q + (24 + 6 * j + e) by omega]; exact ho _ (by omega)
      have x3 : iv (sI μ f) (y + 1) (P + (24 + 6 * upd1 t j i e + i)) = nI (W (24 + 6 * upd1 t j i e + i)) := hs _ (by omega)
      have x4 : iv (sI μ f) (y + 1) (Q + 24 + 6 * e + j) = nI (O (24 + 6 * e + j)) := by rw [show Q + 24 + 6 * e + j = Q + (24 + 6 * e + j) by omega]; exact ho _ (by omega)
      have y1 := okW.2.2.2.1 i (upd1 t j i e) hi me.2
      have y2 := okO.2.2.2.1 j e hj (by omega)
      have y3 := okW.2.2.2.1 (upd1 t j i e) i me.2 hi
      have y4 := okO.2.2.2.1 e j (by omega) hj
      have a1 : e_X12_isLike (sI μ f) y (iv (sI μ f) (y + 1) (P + (24 + 6 * i + upd1 t j i e))) (iv (sI μ f) (y + 1) (Q + 24 + 6 * j + e)) = 0 ↔ ¬ lkT (W (24 + 6 * i + upd1 t j i e)) (O (24 + 6 * j + e)) := by rw [x1, x2]; exact likeI (by omega) (by omega)
      have a2 : e_X12_isLike (sI μ f) y (iv (sI μ f) (y + 1) (P + (24 + 6 * upd1 t j i e + i))) (iv (sI μ f) (y + 1) (Q + 24 + 6 * e + j)) = 0 ↔ ¬ lkT (W (24 + 6 * upd1 t j i e + i)) (O (24 + 6 * e + j)) := by rw [x3, x4]; exact likeI (by omega) (by omega)
      -- the end of a round
      have E3 : ∀ s3, s3 ≤ 1 → (s3 = 1 ↔ (s = 1 ∧ (e = j ∨ upd1 t j i e ≠ i ∨ W i = 1) ∧ lkT (W (24 + 6 * i + upd1 t j i e)) (O (24 + 6 * j + e)) ∧ lkT (W (24 + 6 * upd1 t j i e + i)) (O (24 + 6 * e + j)))) → G X (Rm (d + 1)) mX12_isFitting 292 [(0, .ref y), (1, .int (nI P)), (2, .int (nI Q)), (3, .int (nI j)), (5, .int (nI e))] [.int (nI s3)] (sI μ f) 0 0 K := fun s3 h1 h2 => by
        refine b_X12_isFitting_292 (ih s3 h1 ?_)
        rw [h2, hs2]
        constructor
        · rintro ⟨⟨q1, q2, q3⟩, q4⟩
          refine ⟨q1, q2, fun e' he' => ?_⟩
          by_cases q : e' = e
          · rw [q]; exact q4
          · exact q3 e' (by omega)
        · rintro ⟨q1, q2, q3⟩
          exact ⟨⟨q1, q2, fun e' he' => q3 e' (by omega)⟩, q3 e (by omega)⟩
      have E2 : ∀ s2, s2 ≤ 1 → (s2 = 1 ↔ (s = 1 ∧ (e = j ∨ upd1 t j i e ≠ i ∨ W i = 1) ∧ lkT (W (24 + 6 * i + upd1 t j i e)) (O (24 + 6 * j + e)))) → G X (Rm (d + 1)) mX12_isFitting 229 [(0, .ref y), (1, .int (nI P)), (2, .int (nI Q)), (3, .int (nI j)), (5, .int (nI e))] [.int (nI s2)] (sI μ f) 0 0 K := fun s2 h1 h2 => by
        refine b_X12_isFitting_229 (j0 := P + (24 + 6 * upd1 t j i e + i)) (h := fun z => b_X12_isFitting_291 (E3 0 (by decide) ⟨fun q => absurd q (by decide), fun q => ?_⟩)) (hw12_r0 := hw) (hb := fun _ => by omega) (hb_2 := fun _ => by omega) (hi_j0 := fun _ => by rw [me.1, mi]; exact ixP24) (hb_3 := fun _ => by omega) (hb_4 := fun _ => by omega) (h_2 := fun z1 z2 => b_X12_isFitting_291 (E3 0 (by decide) ⟨fun q => absurd q (by decide), fun q => absurd q.2.2.2 (a2.mp z2)⟩)) (h_3 := fun z1 z2 => E3 1 (by decide) ⟨fun _ => ?_, fun _ => rfl⟩)
        · rw [nI_z (by omega)] at z
          have := h2.mpr ⟨q.1, q.2.1, q.2.2.1⟩
          omega
        · rw [nI_z (by omega)] at z1
          have q := h2.mp (by omega)
          exact ⟨q.1, q.2.1, q.2.2, Decidable.byContradiction fun w => z2 (a2.mpr w)⟩
      have E1 : ∀ s2, s2 ≤ 1 → (s2 = 1 ↔ (s = 1 ∧ (e = j ∨ upd1 t j i e ≠ i ∨ W i = 1))) → G X (Rm (d + 1)) mX12_isFitting 166 [(0, .ref y), (1, .int (nI P)), (2, .int (nI Q)), (3, .int (nI j)), (5, .int (nI e))] [.int (nI s2)] (sI μ f) 0 0 K := fun s2 h1 h2 => by
        refine b_X12_isFitting_166 (j0 := P + (24 + 6 * i + upd1 t j i e)) (h := fun z => b_X12_isFitting_228 (E2 0 (by decide) ⟨fun q => absurd q (by decide), fun q => ?_⟩)) (hw12_r0 := hw) (hb := fun _ => by omega) (hb_2 := fun _ => by omega) (hi_j0 := fun _ => by rw [me.1, mi]; exact ixP24) (hb_3 := fun _ => by omega) (hb_4 := fun _ => by omega) (h_2 := fun z1 z2 => b_X12_isFitting_228 (E2 0 (by decide) ⟨fun q => absurd q (by decide), fun q => absurd q.2.2 (a1.mp z2)⟩)) (h_3 := fun z1 z2 => E2 1 (by decide) ⟨fun _ => ?_, fun _ => rfl⟩)
        · rw [nI_z (by omega)] at z
          have := h2.mpr ⟨q.1, q.2.1⟩
          omega
        · rw [nI_z (by omega)] at z1
          have q := h2.mp (by omega)
          exact ⟨q.1, q.2, Decidable.byContradiction fun w => z2 (a1.mpr w)⟩
      refine b_X12_isFitting_111 (j0 := P + i) (hK := fun z => absurd z (nI_nlt (by omega) (by omega))) (hz := fun _ => b01 hs1) (h := fun _ z => b_X12_isFitting_165 (E1 0 (by decide) ⟨fun q => absurd q (by decide), fun q => ?_⟩)) (h_2 := fun _ z1 z2 => b_X12_isFitting_161 (E1 1 (by decide) ⟨fun _ => ⟨?_, Or.inl (ej.mp z2)⟩, fun _ => rfl⟩)) (hw12_r0 := hw) (hb := fun _ _ _ => by omega) (hb_2 := fun _ _ _ => by omega) (h_3 := fun _ z1 z2 z3 => b_X12_isFitting_161 (E1 1 (by decide) ⟨fun _ => ⟨?_, Or.inr (Or.inl (fun q => z3 (em.mpr q)))⟩, fun _ => rfl⟩)) (hb_3 := fun _ _ _ _ => by omega) (hi_j0 := fun _ _ _ _ => by rw [mi]; exact nI_add P i) (hb_4 := fun _ _ _ _ => by omega) (h_4 := fun _ z1 z2 z3 z4 => b_X12_isFitting_165 (E1 0 (by decide) ⟨fun q => absurd q (by decide), fun q => ?_⟩)) (h_5 := fun _ z1 z2 z3 z4 => b_X12_isFitting_161 (E1 1 (by decide) ⟨fun _ => ⟨?_, Or.inr (Or.inr (w1.mp z4))⟩, fun _ => rfl⟩))
      · rw [nI_z (by omega)] at z; omega
      · rw [nI_z (by omega)] at z1; omega
      · rw [nI_z (by omega)] at z1; omega
      · rw [ej] at z2
        rw [em] at z3
        rcases q.2 with w | w | w
        · exact absurd w z2
        · exact absurd z3 w
        · exact absurd (w1.mpr w) z4
      · rw [nI_z (by omega)] at z1; omega
  have H2 : ∀ v, v ≤ 3 → ∀ s, s ≤ 1 → (s = 1 ↔ ((O j = 0 ∨ W i = 1) ∧ ∀ u, u < v → lkT (W (6 + 6 * u + i)) (O (6 + 6 * u + j)))) → G X (Rm (d + 1)) mX12_isFitting 38 [(0, .ref y), (1, .int (nI P)), (2, .int (nI Q)), (3, .int (nI j)), (4, .int (nI s)), (5, .int (nI v))] [] (sI μ f) 0 0 K := by
    refine dn 3 ?_ ?_
    · intro s hs1 hs2
      refine b_X12_isFitting_38 (j0 := 0) (h := fun _ => H3 0 (Nat.zero_le _) s hs1 ?_) (h_2 := ?_) (hw12_r0 := hw) (hb := ?_) (hi_j0 := ?_) (hb_2 := ?_) (hb_3 := ?_) (h_3 := ?_) (h_4 := ?_)
      · rw [hs2]
        exact ⟨fun q => ⟨q.1, q.2, fun e he => absurd he (Nat.not_lt_zero _)⟩, fun q => ⟨q.1, q.2.1⟩⟩
      all_goals (intro z; exact absurd (le_r _) z)
    · intro v hv3 ih s hs1 hs2
      have x1 : iv (sI μ f) (y + 1) (P + (6 + 6 * v + i)) = nI (W (6 + 6 * v + i)) := hs _ (by omega)
      have x2 : iv (sI μ f) (y + 1) (Q + 6 + 6 * v + j) = nI (O (6 + 6 * v + j)) := by rw [show Q + 6 + 6 * v + j = Q + (6 + 6 * v + j) by omega]; exact ho _ (by omega)
      have y1 := okW.2.2.1 v i hv3 hi
      have y2 := okO.2.2.1 v j hv3 hj
      have a1 : e_X12_isLike (sI μ f) y (iv (sI μ f) (y + 1) (P + (6 + 6 * v + i))) (iv (sI μ f) (y + 1) (Q + 6 + 6 * v + j)) = 0 ↔ ¬ lkT (W (6 + 6 * v + i)) (O (6 + 6 * v + j)) := by rw [x1, x2]; exact likeI (by omega) (by omega)
      have E : ∀ s2, s2 ≤ 1 → (s2 = 1 ↔ (s = 1 ∧ lkT (W (6 + 6 * v + i)) (O (6 + 6 * v + j)))) → G X (Rm (d + 1)) mX12_isFitting 100 [(0, .ref y), (1, .int (nI P)), (2, .int (nI Q)), (3, .int (nI j)), (5, .int (nI v))] [.int (nI s2)] (sI μ f) 0 0 K := fun s2 h1 h2 => by
        refine b_X12_isFitting_100 (ih s2 h1 ?_)
        rw [h2, hs2]
        constructor
        · rintro ⟨⟨q1, q2⟩, q3⟩
          refine ⟨q1, fun u hu => ?_⟩
          by_cases q : u = v
          · rw [q]; exact q3
          · exact q2 u (by omega)
        · rintro ⟨q1, q2⟩
          exact ⟨⟨q1, fun u hu => q2 u (by omega)⟩, q2 v (by omega)⟩
      refine b_X12_isFitting_38 (j0 := P + (6 + 6 * v + i)) (h := fun z => absurd z (ge_c (n := 3) hv3 (by decide))) (h_2 := fun _ z => b_X12_isFitting_99 (E 0 (by decide) ⟨fun q => absurd q (by decide), fun q => ?_⟩)) (hw12_r0 := hw) (hb := fun _ _ => by omega) (hi_j0 := fun _ _ => by rw [mi]; exact ixP6) (hb_2 := fun _ _ => by omega) (hb_3 := fun _ _ => by omega) (h_3 := fun _ z1 z2 => b_X12_isFitting_99 (E 0 (by decide) ⟨fun q => absurd q (by decide), fun q => absurd q.2 (a1.mp z2)⟩)) (h_4 := fun _ z1 z2 => E 1 (by decide) ⟨fun _ => ⟨?_, Decidable.byContradiction fun w => z2 (a1.mpr w)⟩, fun _ => rfl⟩)
      · rw [nI_z (by omega)] at z; omega
      · rw [nI_z (by omega)] at z1; omega
  have B : ∀ s, s ≤ 1 → (s = 1 ↔ (O j = 0 ∨ W i = 1)) → G X (Rm (d + 1)) mX12_isFitting 33 [(0, .ref y), (1, .int (nI P)), (2, .int (nI Q)), (3, .int (nI j))] [.int (nI s)] (sI μ f) 0 0 K := fun s h1 h2 => b_X12_isFitting_33 (H2 0 (Nat.zero_le _) s h1 (by rw [h2]; exact ⟨fun q => ⟨q, fun u hu => absurd hu (Nat.not_lt_zero _)⟩, fun q => q.1⟩))
  refine Ct_of rfl (Nat.le_of_ble_eq_true rfl) (b_X12_isFitting_0 (j0 := P + i) (hw12_r0 := hw) (hb := by omega) (h := fun z => b_X12_isFitting_28 (B 1 (by decide) ⟨fun _ => ?_, fun _ => rfl⟩)) (hb_2 := fun _ => by omega) (hi_j0 := fun _ => by rw [mi]; exact nI_add P i) (hb_3 := fun _ => by omega) (h_2 := fun z1 z2 => B 0 (by decide) ⟨fun q => absurd q (by decide), fun q => ?_⟩) (h_3 := fun z1 z2 => b_X12_isFitting_28 (B 1 (by decide) ⟨fun _ => Or.inr (w1.mp z2), fun _ => rfl⟩)))
  · rw [eo, nI_z (by omega)] at z; exact Or.inl z
  · rw [eo, nI_z (by omega)] at z1
    rcases q with w | w
    · exact absurd w z1
    · exact absurd (w1.mpr w) z2
theorem m_isOnto {n : Nat} (hw : WF12 μ y) (hP : P + 61 ≤ 366) (hs : Pg f y P W) (hW : W 60 ≤ 6) (hn : n ≤ 6) (ht : ∀ e, e < n → f (y + 13) e = nI (t e) ∧ t e < W 60) (hK : ∀ r, r ≤ 1 → (r = 1 ↔ ∀ i, i < W 60 → ∃ d, d < n ∧ t d = i) → K (some (.int (nI r))) (sI μ f)) : Ct X (Rm d) mX12_isOnto [.ref y, .int (nI P), .int (nI n)] (sI μ f) K := by
  refine Ct_of rfl (Nat.le_of_ble_eq_true rfl) (b_X12_isOnto_0 ?_)
  have L : ∀ k, k ≤ n → G X (Rm d) mX12_isOnto 5 [(0, .ref y), (1, .int (nI P)), (2, .int (nI n)), (3, .int (nI (bm t k))), (4, .int (nI k))] [] (sI μ f) 0 0 K := by
    refine dn n ?_ ?_
    · have e1 : iv (sI μ f) (y + 1) (P + 60) = nI (W 60) := hs 60 (by decide)
      have e2 : (1 : Int32) <<< (iv (sI μ f) (y + 1) (P + 60) &&& 31) - 1 = nI (2 ^ W 60 - 1) := by
        rw [e1, sh1 _ (by omega)]
        exact pk_sub (b := 1) (Nat.one_le_two_pow)
      have p6 : 2 ^ W 60 ≤ 2 ^ 6 := Nat.pow_le_pow_right (by decide) hW
      have bl := bm_lt (t := t) (m := W 60) n (fun d hd => (ht d hd).2)
      have e3 : (nI (bm t n) = (1 : Int32) <<< (iv (sI μ f) (y + 1) (P + 60) &&& 31) - 1) ↔ bm t n = 2 ^ W 60 - 1 := by rw [e2]; exact nI_eq (by omega) (by omega)
      have e4 := bm_all (t := t) (m := W 60) (k := n) (fun d hd => (ht d hd).2)
      refine b_X12_isOnto_5 (hw12_r0 := hw) (hb := fun _ => by omega) (hK := fun _ z => hK 0 (by decide) ⟨fun q => absurd q (by decide), fun q => absurd (e3.mpr (e4.mpr q)) z⟩) (hK_2 := fun _ z => hK 1 (by decide) ⟨fun _ => e4.mp (e3.mp z), fun _ => rfl⟩) (hb_2 := ?_) (h := ?_) <;> (intro z; exact absurd (le_r _) z)
    · intro k hk ih
      have tk := ht k hk
      have e1 : iv (sI μ f) (y + 13) k = nI (t k) := tk.1
      refine b_X12_isOnto_5 (hw12_r0 := hw) (hb := fun z => absurd z (ge_c hk (by omega))) (hK := fun z => absurd z (ge_c hk (by omega))) (hK_2 := fun z => absurd z (ge_c hk (by omega))) (hb_2 := fun _ => by omega) (h := fun _ => ?_)
      rw [e1, sh1 _ (by omega), nI_or]
      exact ih
  exact L 0 (Nat.zero_le _)
theorem m_isCov (hw : WF12 μ y) (hP : P + 61 ≤ 366) (hQ : Q + 61 ≤ 366) (hs : Pg f y P W) (ho : Pg f y Q O) (okW : okP W) (okO : okP O) (hK : ∀ f' r, (∀ z, z ≠ y + 13 → ∀ j, f' z j = f z j) → r ≤ 1 → (r = 1 ↔ ext W O 0 W) → K (some (.int (nI r))) (sI μ f')) : Ct X (Rm (d + 2)) mX12_isCovering [.ref y, .int (nI P), .int (nI Q)] (sI μ f) K := by
  have hW := okW.1
  have hO := okO.1
  have en : iv (sI μ f) (y + 1) (Q + 60) = nI (O 60) := ho 60 (by decide)
  have em : iv (sI μ f) (y + 1) (P + 60) = nI (W 60) := hs 60 (by decide)
  -- from depth j on
  have H : O 60 ≠ 0 → ∀ k j, j + k + 1 = O 60 → ∀ (t : Nat → Nat), (∀ e, e < j → t e < W 60 ∧ fitP W O t e (t e)) → (¬ ext W O j t → ∀ g, (∀ z, z ≠ y + 13 → ∀ j, g z j = f z j) → (∀ e, e < j → g (y + 13) e = nI (t e)) → G X (Rm (d + 2)) mX12_isCovering 46 [(0, .ref y), (1, .int (nI P)), (2, .int (nI Q)), (3, .int (nI (O 60))), (4, .int (nI (W 60))), (5, .int (nI j + -1))] [] (sI μ g) 0 0 K) → ∀ c, c ≤ W 60 → ∀ g, (∀ z, z ≠ y + 13 → ∀ j, g z j = f z j) → (∀ e, e < j → g (y + 13) e = nI (t e)) → g (y + 13) j + 1 = nI c → (∀ i, i < c → ¬ (fitP W O t j i ∧ ext W O (j + 1) (upd1 t j i))) → G X (Rm (d + 2)) mX12_isCovering 46 [(0, .ref y), (1, .int (nI P)), (2, .int (nI Q)), (3, .int (nI (O 60))), (4, .int (nI (W 60))), (5, .int (nI j))] [] (sI μ g) 0 0 K := by
    intro hO0 k
    induction k with
    | zero =>
      intro j hj t ht hnone
      have e3 : nI (O 60) - 1 = nI j := by rw [show O 60 = j + 1 by omega, nI_pred]
      refine dn (W 60) ?_ ?_
      · intro g q1 q2 q3 q4
        have m1 : iv (sI μ g) (y + 13) j + 1 = nI (W 60) := q3
        refine b_X12_isCovering_46 (j0 := j) (hK := fun z => absurd z (nI_pos (by omega))) (hw12_r0 := hw) (hi_j0 := fun _ => rfl) (hb := fun _ => by omega) (hc_isFitting := fun _ z => ?_) (h := fun _ z => ?_)
        · rw [m1, wi_sI, iv_sI, u2_s] at z
          exact absurd z (nI_nlt (Nat.le_refl _) (by omega))
        · rw [m1, wi_sI]
          refine hnone (fun q => ?_) _ (fun z hz j => by rw [u2_x hz]; exact q1 z hz j) (fun e he => by rw [u2_k (by omega)]; exact q2 e he)
          obtain ⟨i, hi, h1, h2⟩ := ext_s (by omega) q
          exact q4 i hi ⟨h1, h2⟩
      · intro c hc ih g q1 q2 q3 q4
        have m1 : iv (sI μ g) (y + 13) j + 1 = nI c := q3
        have fr : ∀ z, z ≠ y + 13 → ∀ q, (u2 g (y + 13) j (nI c)) z q = f z q := fun z hz q => by rw [u2_x hz]; exact q1 z hz q
        refine b_X12_isCovering_46 (j0 := j) (hK := fun z => absurd z (nI_pos (by omega))) (hw12_r0 := hw) (hi_j0 := fun _ => rfl) (hb := fun _ => by omega) (hc_isFitting := fun _ z => ?_) (h := fun _ z => ?_)
        · rw [m1, wi_sI]
          refine m_isFitting (W := W) (O := O) (t := t) (i := c) hw hP hQ (fun k hk => by rw [fr _ (by omega)]; exact hs k hk) (fun k hk => by rw [fr _ (by omega)]; exact ho k hk) okW okO (by omega) (by omega) (fun e he => ⟨by rw [u2_k (by omega)]; exact q2 e he, by have := (ht e he).1; omega⟩) (u2_s _ _ _ _) (fun r hr er => ?_)
          have Nx : ¬ (fitP W O t j c ∧ ext W O (j + 1) (upd1 t j c)) → G X (Rm (d + 2)) mX12_isCovering 46 [(0, .ref y), (1, .int (nI P)), (2, .int (nI Q)), (3, .int (nI (O 60))), (4, .int (nI (W 60))), (5, .int (nI j))] [] (sI μ (u2 g (y + 13) j (nI c))) 0 0 K := fun w => ih _ fr (fun e he => by rw [u2_k (by omega)]; exact q2 e he) (by rw [u2_s, nI_1]) (fun i hi => by
            by_cases q : i = c
            · rw [q]; exact w
            · exact q4 i (by omega))
          refine b_X12_isCovering_88 (h := fun z => Nx (fun w => ?_)) (h_2 := fun _ z => absurd e3.symm z) (hw12_r0 := hw) (hc_isOnto := fun z1 _ => ?_)
          · rw [nI_z (by omega)] at z
            have := er.mpr w.1
            omega
          · rw [nI_z (by omega)] at z1
            have hfit := er.mp (by omega)
            have ht1 : ∀ e, e < O 60 → upd1 t j c e < W 60 ∧ fitP W O (upd1 t j c) e (upd1 t j c e) := fun e he => by
              by_cases q : e = j
              · subst q
                rw [upd1_s]
                exact ⟨hc, (fitP_cg (fun e' he' => upd1_n (by omega))).mpr hfit⟩
              · rw [upd1_n q]
                exact ⟨(ht e (by omega)).1, (fitP_cg (fun e' he' => upd1_n (by omega))).mpr (ht e (by omega)).2⟩
            have E := ext_e ht1
            rw [show O 60 = j + 1 by omega] at E
            refine m_isOnto (W := W) (t := upd1 t j c) hw hP (fun k hk => by rw [fr _ (by omega)]; exact hs k hk) hW hO (fun e he => ⟨?_, (ht1 e he).1⟩) (fun r2 hr2 er2 => ?_)
            · by_cases q : e = j
              · subst q; rw [u2_s, upd1_s]
              · rw [u2_k q, upd1_n q]; exact q2 e (by omega)
            · rw [show O 60 = j + 1 by omega] at er2
              refine b_X12_isCovering_105 (h := fun z => b_X12_isCovering_110 (j0 := 0) (h := fun _ => Nx (fun w => ?_)) (hw12_r0 := hw) (hi_j0 := fun z => absurd (by rw [e3]; exact le_r _) z) (hb := fun z => absurd (by rw [e3]; exact le_r _) z) (h_2 := fun z => absurd (by rw [e3]; exact le_r _) z)) (hK := fun z => hK _ 1 fr (by decide) ⟨fun _ => ?_, fun _ => rfl⟩)
              · rw [nI_z (by omega)] at z
                have := er2.mpr (E.mp w.2)
                omega
              · rw [nI_z (by omega)] at z
                obtain ⟨t', h1, h2⟩ := E.mpr (er2.mp (by omega))
                exact ⟨t', fun e he => absurd he (Nat.not_lt_zero _), h2⟩
        · rw [m1, wi_sI, iv_sI, u2_s] at z
          exact absurd (nI_lt hc (by omega)) z
    | succ k ihk =>
      intro j hj t ht hnone
      have e3 : nI (O 60) - 1 = nI (O 60 - 1) := pk_sub (b := 1) (by omega)
      refine dn (W 60) ?_ ?_
      · intro g q1 q2 q3 q4
        have m1 : iv (sI μ g) (y + 13) j + 1 = nI (W 60) := q3
        refine b_X12_isCovering_46 (j0 := j) (hK := fun z => absurd z (nI_pos (by omega))) (hw12_r0 := hw) (hi_j0 := fun _ => rfl) (hb := fun _ => by omega) (hc_isFitting := fun _ z => ?_) (h := fun _ z => ?_)
        · rw [m1, wi_sI, iv_sI, u2_s] at z
          exact absurd z (nI_nlt (Nat.le_refl _) (by omega))
        · rw [m1, wi_sI]
          refine hnone (fun q => ?_) _ (fun z hz j => by rw [u2_x hz]; exact q1 z hz j) (fun e he => by rw [u2_k (by omega)]; exact q2 e he)
          obtain ⟨i, hi, h1, h2⟩ := ext_s (by omega) q
          exact q4 i hi ⟨h1, h2⟩
      · intro c hc ih g q1 q2 q3 q4
        have m1 : iv (sI μ g) (y + 13) j + 1 = nI c := q3
        have fr : ∀ z, z ≠ y + 13 → ∀ q, (u2 g (y + 13) j (nI c)) z q = f z q := fun z hz q => by rw [u2_x hz]; exact q1 z hz q
        refine b_X12_isCovering_46 (j0 := j) (hK := fun z => absurd z (nI_pos (by omega))) (hw12_r0 := hw) (hi_j0 := fun _ => rfl) (hb := fun _ => by omega) (hc_isFitting := fun _ z => ?_) (h := fun _ z => ?_)
        · rw [m1, wi_sI]
          refine m_isFitting (W := W) (O := O) (t := t) (i := c) hw hP hQ (fun k hk => by rw [fr _ (by omega)]; exact hs k hk) (fun k hk => by rw [fr _ (by omega)]; exact ho k hk) okW okO (by omega) (by omega) (fun e he => ⟨by rw [u2_k (by omega)]; exact q2 e he, by have := (ht e he).1; omega⟩) (u2_s _ _ _ _) (fun r hr er => ?_)
          have Nx : ∀ g, (∀ z, z ≠ y + 13 → ∀ j, g z j = f z j) → (∀ e, e < j → g (y + 13) e = nI (t e)) → g (y + 13) j = nI c → ¬ (fitP W O t j c ∧ ext W O (j + 1) (upd1 t j c)) → G X (Rm (d + 2)) mX12_isCovering 46 [(0, .ref y), (1, .int (nI P)), (2, .int (nI Q)), (3, .int (nI (O 60))), (4, .int (nI (W 60))), (5, .int (nI j))] [] (sI μ g) 0 0 K := fun g w1 w2 w3 w => ih g w1 w2 (by rw [w3, nI_1]) (fun i hi => by
            by_cases q : i = c
            · rw [q]; exact w
            · exact q4 i (by omega))
          refine b_X12_isCovering_88 (h := fun z => Nx _ fr (fun e he => by rw [u2_k (by omega)]; exact q2 e he) (u2_s _ _ _ _) (fun w => ?_)) (h_2 := fun z1 _ => ?_) (hw12_r0 := hw) (hc_isOnto := fun _ z => ?_)
          · rw [nI_z (by omega)] at z
            have := er.mpr w.1
            omega
          · rw [nI_z (by omega)] at z1
            have hfit := er.mp (by omega)
            have ht1 : ∀ e, e < j + 1 → upd1 t j c e < W 60 ∧ fitP W O (upd1 t j c) e (upd1 t j c e) := fun e he => by
              by_cases q : e = j
              · subst q
                rw [upd1_s]
                exact ⟨hc, (fitP_cg (fun e' he' => upd1_n (by omega))).mpr hfit⟩
              · rw [upd1_n q]
                exact ⟨(ht e (by omega)).1, (fitP_cg (fun e' he' => upd1_n (by omega))).mpr (ht e (by omega)).2⟩
            refine b_X12_isCovering_110 (j0 := j + 1) (h := fun z => ?_) (hw12_r0 := hw) (hi_j0 := fun _ => nI_1 j) (hb := fun _ => by omega) (h_2 := fun _ => ?_)
            · rw [e3] at z
              have := (nI_leI (by omega) (by omega)).mp z
              omega
            · rw [nI_1, wi_sI]
              refine ihk (j + 1) (by omega) (upd1 t j c) ht1 (fun w g' w1 w2 => ?_) 0 (Nat.zero_le _) _ (fun z hz q => by rw [u2_x hz]; exact fr z hz q) (fun e he => ?_) (by rw [u2_s]; decide) (fun i hi => absurd hi (Nat.not_lt_zero _))
              · rw [pk_m1]
                exact Nx g' w1 (fun e he => by rw [w2 e (by omega), upd1_n (by omega)]) (by rw [w2 j (by omega), upd1_s]) (fun q => w q.2)
              · rw [u2_k (by omega)]
                by_cases q : e = j
                · subst q; rw [u2_s, upd1_s]
                · rw [u2_k q, upd1_n q]; exact q2 e (by omega)
          · rw [e3] at z
            have := (nI_eq (by omega) (by omega)).mp z
            omega
        · rw [m1, wi_sI, iv_sI, u2_s] at z
          exact absurd (nI_lt hc (by omega)) z
  refine Ct_of rfl (Nat.le_of_ble_eq_true rfl) (b_X12_isCovering_0 (hw12_r0 := hw) (hb := by omega) (hb_2 := by omega) (h := fun z => ?_) (hK := fun z1 z2 => ?_) (hK_2 := fun z1 z2 => ?_))
  · rw [en, nI_z (by omega)] at z
    rw [en, em, wi_sI]
    refine H z (O 60 - 1) 0 (by omega) W (fun e he => absurd he (Nat.not_lt_zero _)) (fun w g w1 w2 => ?_) 0 (Nat.zero_le _) _ (fun z hz j => u2_x hz) (fun e he => absurd he (Nat.not_lt_zero _)) (by rw [u2_s]; decide) (fun i hi => absurd hi (Nat.not_lt_zero _))
    have e9 : nI 0 + -1 < 0 := by decide
    exact b_X12_isCovering_46 (j0 := 0) (hK := fun _ => hK g 0 w1 (by decide) ⟨fun q => absurd q (by decide), fun q => absurd q w⟩) (hw12_r0 := hw) (hi_j0 := fun z => absurd e9 z) (hb := fun z => absurd e9 z) (hc_isFitting := fun z => absurd e9 z) (h := fun z => absurd e9 z)
  · rw [en, nI_z (by omega)] at z1
    rw [em, nI_z (by omega)] at z2
    rw [wi_sI]
    refine hK _ 0 (fun z hz j => u2_x hz) (by decide) ⟨fun q => absurd q (by decide), fun q => ?_⟩
    obtain ⟨t', _, h2⟩ := q
    obtain ⟨d, hd, _⟩ := h2.2 0 (by omega)
    omega
  · rw [en, nI_z (by omega)] at z1
    rw [em, nI_z (by omega)] at z2
    rw [wi_sI]
    refine hK _ 1 (fun z hz j => u2_x hz) (by decide) ⟨fun _ => ⟨W, fun _ _ => rfl, fun d hd => by omega, fun i hi => by omega⟩, fun _ => rfl⟩
end P41
