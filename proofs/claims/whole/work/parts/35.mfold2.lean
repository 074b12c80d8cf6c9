section P35
variable {X : cX} {d : Nat} {μ : mM} {K : Option Value → mM → Prop} {f : Nat → Nat → Int32} {a b y v w : Nat} {p : Nat → Nat}
theorem T4.us {P sz z0 k : Nat} {x : Int32} {m : Nat → Nat} {A N : Nat → Nat → Nat} (h : T4 f y P sz m A N) (hz : z0 ≠ y + 1) : T4 (u2 f z0 k x) y P sz m A N :=
  ⟨by rw [u2_x (Ne.symm hz)]; exact h.1, fun i hi => by rw [u2_x (Ne.symm hz)]; exact h.2.1 i hi, fun v i hv hi => by rw [u2_x (Ne.symm hz)]; exact h.2.2.1 v i hv hi, fun i j hi hj => by rw [u2_x (Ne.symm hz)]; exact h.2.2.2 i j hi hj⟩
/-- what stays while the other page is written -/
def FI (f g : Nat → Nat → Int32) (y md : Nat) (p : Nat → Nat) : Prop := MF2 f g y ∧ Pg0 g y p ∧ ∀ j, j < p 60 → g (y + 10) j = nI (gr p md j)
theorem FI.up {g : Nat → Nat → Int32} {md k : Nat} {x : Int32} (h : FI f g y md p) (hk : 305 ≤ k) : FI f (u2 g (y + 1) k x) y md p :=
  ⟨h.1.up (by omega), h.2.1.fr (fun i hi => u2_k (by omega)), fun j hj => by rw [u2_x (by omega)]; exact h.2.2 j hj⟩
theorem m_fold {md : Nat} (hw : WF12 μ y) (hg : Pg0 f y p) (hp : okP p) (hmd : md ≤ 1) (hK : ∀ f', MF2 f f' y → Pg0 f' y (foldP p md) → K (some (.int (nI (gc p md (p 60))))) (sI μ f')) : Ct X (Rm (d + 3)) mX12_fold [.ref y, .int (nI md)] (sI μ f) K := by
  have h6 := hp.1
  have hcl := gc_le p md (p 60)
  have hl : ∀ i, i < p 60 → gr p md i < gc p md (p 60) := fun i hi => gr_lt _ _ hi
  have h2 : ∀ i j, i < p 60 → j < p 60 → p (24 + 6 * i + j) ≤ 2 := fun i j hi hj => hp.2.2.2.1 i j (by omega) (by omega)
  have fl : ¬ e_X12_isFlag (sI μ f) (nI md) = 0 := by
    unfold e_X12_isFlag
    rw [e_inN (n := 1) (by omega) (by decide) (by decide)]
    omega
  have nd : ∀ g, Pg0 g y p → e_X12_nodes (sI μ g) y = nI (p 60) := fun g h => h 60 (by decide)
  -- the unmet ones become no, and all is copied
  have H6 : ∀ k, k ≤ 60 → 24 ≤ k → ∀ g, FI f g y md p → T4 g y 305 0 (fdm p md (p 60)) (fdA p md (p 60)) (fun r c => if 24 + 6 * r + c < k then fdN p md r c else emN (mm p (gr p md) (p 60) (p 60) r c)) → G X (Rm (d + 3)) mX12_fold 339 [(0, .ref y), (2, .int (nI (gc p md (p 60)))), (4, .int (nI k))] [] (sI μ g) 0 0 K := by
    refine dn 60 ?_ ?_
    · intro _ g q1 q2
      refine b_X12_fold_339 (hw12_r0 := hw) (hc_copies := fun _ => ?_) (hb := ?_) (hb_2 := ?_) (h := ?_) (h_2 := ?_)
      · rw [wi_sI]
        have q3 : T4 _ y 305 _ _ _ (fdN p md) := (q2.uz (gc p md (p 60))).cg (fun _ _ => rfl) (fun _ _ _ _ => rfl) (fun r c hr hc => by (try dsimp only); rw [if_pos (by omega)])
        refine m_copies (P := 305) (Q := 0) hw (T4_pg q3) (by decide) (by decide) (by decide) (fun f' r1 r2 r3 => b_X12_fold_411 (hK f' ?_ (Pg_0.mp r3)))
        have q4 := q1.1.up (k := 305 + 60) (v := nI (gc p md (p 60))) (by omega)
        exact ⟨fun z z0 za zb zc j => (r1 z za j).trans (q4.1 z z0 za zb zc j), fun k hk hk2 => (r2 k (by omega)).trans (q4.2.1 k hk hk2), fun k hk => (r1 y (by omega) k).trans (q4.2.2 k hk)⟩
      all_goals (intro c; exact absurd (le_r _) c)
    · intro k hk ih h24 g q1 q2
      have d1 : k = 24 + 6 * ((k - 24) / 6) + (k - 24) % 6 := by omega
      have Mle := mm_le (g := gr p md) (n := p 60) (p 60) h2 ((k - 24) / 6) ((k - 24) % 6)
      have e1 : iv (sI μ g) (y + 1) (305 + k) = nI (emN (mm p (gr p md) (p 60) (p 60) ((k - 24) / 6) ((k - 24) % 6))) := by
        have := q2.2.2.2 ((k - 24) / 6) ((k - 24) % 6) (by omega) (by omega)
        (try dsimp only at this)
        rw [← d1, if_neg (by omega)] at this
        exact this
      have S : ∀ t : Nat, t = fdN p md ((k - 24) / 6) ((k - 24) % 6) → G X (Rm (d + 3)) mX12_fold 387 [(0, .ref y), (2, .int (nI (gc p md (p 60)))), (4, .int (nI k))] [.int (nI t), .int ((305 : Int32) + nI k), .ref (y + 1)] (sI μ g) 0 0 K := by
        intro t ht
        refine b_X12_fold_387 (n0 := 366) (j0 := 305 + k) (hk_q0 := w12_k0 hw) (hi_j0 := nI_add 305 k) (hb := by omega) (h := ?_)
        rw [wi_sI]
        have q3 := T4.uN (i := (k - 24) / 6) (j := (k - 24) % 6) (n := t) (N' := fun r c => if 24 + 6 * r + c < k + 1 then fdN p md r c else emN (mm p (gr p md) (p 60) (p 60) r c)) q2 (by omega) (by omega) (by (try dsimp only); rw [if_pos (by omega), ht]) (fun r c hr hc hne => by
          (try dsimp only)
          by_cases z : 24 + 6 * r + c < k
          · rw [if_pos z, if_pos (by omega)]
          · rw [if_neg z, if_neg (by omega)])
        rw [← d1] at q3
        exact ih (by omega) _ (q1.up (by omega)) q3
      refine b_X12_fold_339 (hw12_r0 := hw) (hc_copies := fun c => absurd c (ge_c (n := 60) hk (by decide))) (hb := fun _ => by omega) (hb_2 := fun _ _ => by omega) (h := fun _ c => ?_) (h_2 := fun _ c => S 0 ?_)
      · rw [e1, emN_m4 Mle] at c
        rw [e1, emN_n c]
        refine S _ ?_
        unfold fdN
        rw [if_neg c]
      · rw [e1, emN_m4 Mle] at c
        unfold fdN
        rw [if_pos c]
  -- the nodes one by one
  have H5 : ∀ i, i ≤ p 60 → ∀ g, FI f g y md p → T4 g y 305 0 (fdm p md i) (fdA p md i) (fun r c => emN (mm p (gr p md) (p 60) i r c)) → G X (Rm (d + 3)) mX12_fold 121 [(0, .ref y), (2, .int (nI (gc p md (p 60)))), (3, .int (nI (p 60))), (4, .int (nI i))] [] (sI μ g) 0 0 K := by
    refine dn (p 60) ?_ ?_
    · intro g q1 q2
      refine b_X12_fold_121 (hw12_r0 := hw) (h := fun _ => H6 24 (by decide) (by decide) g q1 (q2.cg (fun _ _ => rfl) (fun _ _ _ _ => rfl) (fun r c _ _ => by (try dsimp only); rw [if_neg (by omega)]))) (hb := ?_) (h_2 := ?_) <;> (intro c; exact absurd (le_r _) c)
    · intro i hi ih g q1 q2
      have gl := hl i hi
      refine b_X12_fold_121 (hw12_r0 := hw) (h := fun c => absurd c (ge_c hi (by omega))) (hb := fun _ => by omega) (h_2 := fun _ => ?_)
      have eg : iv (sI μ g) (y + 10) i = nI (gr p md i) := q1.2.2 i hi
      rw [eg]
      have N : ∀ j, j ≤ p 60 → ∀ g, FI f g y md p → T4 g y 305 0 (fdm p md (i + 1)) (fdA p md (i + 1)) (fun r c => emN (mr p (gr p md) (mm p (gr p md) (p 60) i) i j r c)) → G X (Rm (d + 3)) mX12_fold 249 [(0, .ref y), (2, .int (nI (gc p md (p 60)))), (3, .int (nI (p 60))), (4, .int (nI i)), (5, .int (nI (gr p md i))), (7, .int (nI j))] [] (sI μ g) 0 0 K := by
        refine dn (p 60) ?_ ?_
        · intro g q1 q2
          refine b_X12_fold_249 (j0 := 0) (hw12_r0 := hw) (h := fun _ => ih g q1 q2) (hb := ?_) (hi_j0 := ?_) (hb_2 := ?_) (h_2 := ?_) (hi_j0_2 := ?_) (hb_3 := ?_) (hs := ?_) (h_3 := ?_) (h_4 := ?_) <;> (intro c; exact absurd (le_r _) c)
        · intro j hj ih2 g q1 q2
          have gj := q1.2.2 j hj
          have lj := hl j hj
          have egj : iv (sI μ g) (y + 10) j = nI (gr p md j) := gj
          have ix : (329 : Int32) + 6 * nI (gr p md i) + iv (sI μ g) (y + 10) j = nI (305 + (24 + 6 * gr p md i + gr p md j)) := by
            rw [egj, show (329 : Int32) = nI 329 from rfl, show (6 : Int32) = nI 6 from rfl, pk_mul, nI_add, nI_add]
            congr 1
            omega
          have Mle : mr p (gr p md) (mm p (gr p md) (p 60) i) i j (gr p md i) (gr p md j) ≤ 3 := mr_le (mm_le i (fun r k hr hk => h2 r k (by omega) hk)) j (fun k hk => h2 i k hi (by omega)) _ _
          have tle := h2 i j hi hj
          have m1 : iv (sI μ g) (y + 1) (305 + (24 + 6 * gr p md i + gr p md j)) = nI (emN (mr p (gr p md) (mm p (gr p md) (p 60) i) i j (gr p md i) (gr p md j))) := q2.2.2.2 _ _ (by omega) (by omega)
          have t1 : e_X12_nextOf (sI μ g) y i j = nI (p (24 + 6 * i + j)) := q1.2.1 _ (by omega)
          have stv : mr p (gr p md) (mm p (gr p md) (p 60) i) i (j + 1) (gr p md i) (gr p md j) = if mr p (gr p md) (mm p (gr p md) (p 60) i) i j (gr p md i) (gr p md j) = 3 ∨ mr p (gr p md) (mm p (gr p md) (p 60) i) i j (gr p md i) (gr p md j) = p (24 + 6 * i + j) then p (24 + 6 * i + j) else 1 := if_pos ⟨rfl, rfl⟩
          have step : ∀ t : Nat, t = mr p (gr p md) (mm p (gr p md) (p 60) i) i (j + 1) (gr p md i) (gr p md j) → t ≠ 3 → G X (Rm (d + 3)) mX12_fold 322 [(0, .ref y), (2, .int (nI (gc p md (p 60)))), (3, .int (nI (p 60))), (4, .int (nI i)), (5, .int (nI (gr p md i))), (7, .int (nI j))] [.int (nI t), .int ((329 : Int32) + 6 * nI (gr p md i) + iv (sI μ g) (y + 10) j), .ref (y + 1)] (sI μ g) 0 0 K := by
            intro t ht ht3
            refine b_X12_fold_322 (n0 := 366) (j0 := 305 + (24 + 6 * gr p md i + gr p md j)) (hk_q0 := w12_k0 hw) (hi_j0 := ix) (hb := by omega) (h := ?_)
            rw [wi_sI]
            refine ih2 _ (q1.up (by omega)) (T4.uN q2 (by omega) (by omega) ?_ (fun r k hr hk hne => ?_))
            · (try dsimp only)
              rw [← ht, emN_n ht3]
            · (try dsimp only)
              have e9 : mr p (gr p md) (mm p (gr p md) (p 60) i) i (j + 1) r k = mr p (gr p md) (mm p (gr p md) (p 60) i) i j r k := if_neg (by omega)
              rw [e9]
          refine b_X12_fold_249 (j0 := 305 + (24 + 6 * gr p md i + gr p md j)) (hw12_r0 := hw) (h := fun c => absurd c (ge_c hj (by omega))) (hb := fun _ => by omega) (hi_j0 := fun _ => ix) (hb_2 := fun _ => by omega) (h_2 := fun _ c => ?_) (hi_j0_2 := fun _ _ => ix) (hb_3 := fun _ _ => by omega) (hs := fun _ _ => by omega) (h_3 := fun _ c1 c2 => ?_) (h_4 := fun _ c1 c2 => ?_)
          · rw [m1, emN_m4 Mle] at c
            refine b_X12_fold_310 (hw12_r0 := hw) (hs := by omega) (h := ?_)
            rw [t1]
            refine step _ ?_ (by omega)
            rw [stv, if_pos (Or.inl c)]
          · rw [m1, emN_m4 Mle] at c1
            rw [m1, t1, emN_eq Mle c1 tle] at c2
            refine step 1 ?_ (by omega)
            rw [stv, if_neg (by omega)]
          · rw [m1, emN_m4 Mle] at c1
            rw [m1, t1, emN_eq Mle c1 tle] at c2
            refine b_X12_fold_310 (hw12_r0 := hw) (hs := by omega) (h := ?_)
            rw [t1]
            refine step _ ?_ (by omega)
            rw [stv, if_pos (Or.inr c2)]
      have A : ∀ c, c ≤ 3 → ∀ g, FI f g y md p → T4 g y 305 0 (fdm p md (i + 1)) (fun v k => if v < c then fdA p md (i + 1) v k else fdA p md i v k) (fun r c => emN (mm p (gr p md) (p 60) i r c)) → G X (Rm (d + 3)) mX12_fold 209 [(0, .ref y), (2, .int (nI (gc p md (p 60)))), (3, .int (nI (p 60))), (4, .int (nI i)), (5, .int (nI (gr p md i))), (7, .int (nI c))] [] (sI μ g) 0 0 K := by
        refine dn 3 ?_ ?_
        · intro g q1 q2
          refine b_X12_fold_209 (j0 := 0) (hw12_r0 := hw) (h := fun _ => N 0 (Nat.zero_le _) g q1 (q2.cg (fun _ _ => rfl) (fun v k hv _ => by (try dsimp only); rw [if_pos hv]) (fun _ _ _ _ => rfl))) (hs := ?_) (hi_j0 := ?_) (hb := ?_) (h_2 := ?_) <;> (intro c; exact absurd (le_r _) c)
        · intro c hc ih2 g q1 q2
          have e1 : e_X12_atOf (sI μ g) y c i = nI (p (6 + 6 * c + i)) := q1.2.1 _ (by omega)
          refine b_X12_fold_209 (j0 := 305 + (6 + 6 * c + gr p md i)) (hw12_r0 := hw) (h := fun z => absurd z (ge_c (n := 3) hc (by decide))) (hs := fun _ => by omega) (hi_j0 := fun _ => ?_) (hb := fun _ => by omega) (h_2 := fun _ => ?_)
          · rw [show (311 : Int32) = nI 311 from rfl, show (6 : Int32) = nI 6 from rfl, pk_mul, nI_add, nI_add]
            congr 1
            omega
          · rw [e1, wi_sI]
            refine ih2 _ (q1.up (by omega)) (T4.uA q2 hc (by omega) ?_ (fun w k hw hk hne => ?_))
            · (try dsimp only)
              rw [if_pos (by omega)]
              show (if gr p md i = gr p md i then _ else _) = _
              rw [if_pos rfl]
            · (try dsimp only)
              by_cases q : w < c
              · rw [if_pos q, if_pos (by omega)]
              · rw [if_neg q]
                by_cases q2 : w < c + 1
                · rw [if_pos q2]
                  show (if k = gr p md i then _ else fdA p md i w k) = _
                  rw [if_neg (by omega)]
                · rw [if_neg q2]
      have Mn : ∀ t : Nat, t = (if fj p md i < i then 1 else p i) → G X (Rm (d + 3)) mX12_fold 205 [(0, .ref y), (2, .int (nI (gc p md (p 60)))), (3, .int (nI (p 60))), (4, .int (nI i)), (5, .int (nI (gr p md i)))] [.int (nI t), .int ((305 : Int32) + nI (gr p md i)), .ref (y + 1)] (sI μ g) 0 0 K := by
        intro t ht
        refine b_X12_fold_205 (n0 := 366) (j0 := 305 + gr p md i) (hk_q0 := w12_k0 hw) (hi_j0 := nI_add 305 _) (hb := by omega) (h := ?_)
        rw [wi_sI]
        refine A 0 (Nat.zero_le _) _ (q1.up (by omega)) ((T4.um q2 (by omega) ?_ (fun k hk hne => ?_)).cg (fun _ _ => rfl) (fun v k _ _ => by (try dsimp only); rw [if_neg (Nat.not_lt_zero _)]) (fun _ _ _ _ => rfl))
        · show (if gr p md i = gr p md i then _ else _) = _
          rw [if_pos rfl, ht]
        · show (if k = gr p md i then _ else fdm p md i k) = _
          rw [if_neg hne]
      have F : ∀ j, j ≤ i → ∀ t : Nat, t ≤ 1 → (t = 1 ↔ ∀ k, k < j → gr p md k ≠ gr p md i) → G X (Rm (d + 3)) mX12_fold 142 [(0, .ref y), (2, .int (nI (gc p md (p 60)))), (3, .int (nI (p 60))), (4, .int (nI i)), (5, .int (nI (gr p md i))), (6, .int (nI t)), (7, .int (nI j))] [] (sI μ g) 0 0 K := by
        refine dn i ?_ ?_
        · intro t ht1 ht
          rw [gr_first] at ht
          have e1 : iv (sI μ g) (y + 1) i = nI (p i) := q1.2.1 i (by omega)
          refine b_X12_fold_142 (hw12_r0 := hw) (h := fun _ c => Mn 1 ?_) (hb := fun _ _ => by omega) (h_2 := fun _ c => ?_) (h_3 := ?_) (hb_2 := ?_) (h_4 := ?_) (h_5 := ?_)
          · rw [nI_z (by omega)] at c
            rw [if_pos (Decidable.byContradiction fun q => by have := ht.mpr q; omega)]
          · rw [nI_z (by omega)] at c
            rw [e1]
            refine Mn _ ?_
            rw [if_neg (ht.mp (by omega))]
          all_goals (intro c; exact absurd (le_r _) c)
        · intro j hj ih2 t ht1 ht
          have e1 : iv (sI μ g) (y + 10) j = nI (gr p md j) := q1.2.2 j (by omega)
          have lj := hl j (by omega)
          refine b_X12_fold_142 (hw12_r0 := hw) (h := fun c => absurd c (ge_c hj (by omega))) (hb := fun c => absurd c (ge_c hj (by omega))) (h_2 := fun c => absurd c (ge_c hj (by omega))) (h_3 := fun _ c => b_X12_fold_170 (b_X12_fold_171 (ih2 0 (by decide) ⟨fun q => absurd q (by decide), fun q => ?_⟩))) (hb_2 := fun _ _ => by omega) (h_4 := fun _ _ c => b_X12_fold_170 (b_X12_fold_171 (ih2 0 (by decide) ⟨fun q => absurd q (by decide), fun q => ?_⟩))) (h_5 := fun _ c1 c2 => b_X12_fold_171 (ih2 1 (by decide) ⟨fun _ k hk => ?_, fun _ => rfl⟩))
          · rw [nI_z (by omega)] at c
            have := ht.mpr (fun k hk => q k (by omega))
            omega
          · rw [e1, nI_eq (by omega) (by omega)] at c
            exact absurd c (q j (by omega))
          · rw [nI_z (by omega)] at c1
            rw [e1, nI_eq (by omega) (by omega)] at c2
            by_cases q : k = j
            · subst q; exact c2
            · exact ht.mp (by omega) k (by omega)
      exact F 0 (Nat.zero_le _) 1 (by decide) ⟨fun _ k hk => absurd hk (Nat.not_lt_zero _), fun _ => rfl⟩
  -- the other page is emptied
  have H4 : ∀ k, k ≤ 61 → ∀ g, FI f g y md p → (∀ r, r < k → g (y + 1) (305 + r) = nI (if 24 ≤ r ∧ r < 60 then emN 3 else 0)) → G X (Rm (d + 3)) mX12_fold 74 [(0, .ref y), (2, .int (nI (gc p md (p 60)))), (3, .int (nI (p 60))), (4, .int (nI k))] [] (sI μ g) 0 0 K := by
    refine dn 61 ?_ ?_
    · intro g q1 q2
      refine b_X12_fold_74 (hw12_r0 := hw) (h := fun _ => H5 0 (Nat.zero_le _) g q1 ⟨?_, fun i hi => ?_, fun v i hv hi => ?_, fun i j hi hj => ?_⟩) (h_2 := ?_) (h_3 := ?_) (h_4 := ?_)
      · have := q2 60 (by decide)
        rw [if_neg (by omega)] at this
        exact this
      · have := q2 i (by omega)
        rw [if_neg (by omega)] at this
        exact this
      · have := q2 (6 + 6 * v + i) (by omega)
        rw [if_neg (by omega)] at this
        exact this
      · have := q2 (24 + 6 * i + j) (by omega)
        rw [if_pos (by omega)] at this
        exact this
      all_goals (intro c; exact absurd (le_r _) c)
    · intro k hk ih g q1 q2
      have S : ∀ t : Nat, t = (if 24 ≤ k ∧ k < 60 then emN 3 else 0) → G X (Rm (d + 3)) mX12_fold 111 [(0, .ref y), (2, .int (nI (gc p md (p 60)))), (3, .int (nI (p 60))), (4, .int (nI k))] [.int (nI t), .int ((305 : Int32) + nI k), .ref (y + 1)] (sI μ g) 0 0 K := by
        intro t ht
        refine b_X12_fold_111 (n0 := 366) (j0 := 305 + k) (hk_q0 := w12_k0 hw) (hi_j0 := nI_add 305 k) (hb := by omega) (h := ?_)
        rw [wi_sI]
        refine ih _ (q1.up (by omega)) (fun r hr => ?_)
        by_cases q : r = k
        · subst q; rw [u2_s, ht]
        · rw [u2_k (by omega)]; exact q2 r (by omega)
      have l24 : (nI k < (24 : Int32)) ↔ k < 24 := nI_ltI (b := 24) (by omega) (by decide)
      have l60 : ((60 : Int32) ≤ nI k) ↔ 60 ≤ k := nI_leI (a := 60) (by decide) (by omega)
      refine b_X12_fold_74 (hw12_r0 := hw) (h := fun c => absurd c (ge_c (n := 61) hk (by decide))) (h_2 := fun _ c => b_X12_fold_110 (S 0 ?_)) (h_3 := fun _ _ c => b_X12_fold_110 (S 0 ?_)) (h_4 := fun _ c1 c2 => ?_)
      · rw [l24] at c; rw [if_neg (by omega)]
      · rw [l60] at c; rw [if_neg (by omega)]
      · rw [l24] at c1
        rw [l60] at c2
        rw [← emN_3]
        exact S _ (by rw [if_pos (by omega)])
  -- what is reached
  have H2 : ∀ k, k ≤ 18 → ∀ g, MF2 f g y → Pg0 g y p → (∀ r, r < 36 → g (y + 7) r = nI (wayF p (p 60) r)) → (∀ v c, v < 3 → c < p 60 → 6 * v + c < k → g (y + 11) (6 * v + c) = nI (rchP p v c)) → G X (Rm (d + 3)) mX12_fold 15 [(0, .ref y), (1, .int (nI md)), (2, .int (nI k))] [] (sI μ g) 0 0 K := by
    refine dn 18 ?_ ?_
    · intro g q1 q2 q3 q4
      refine b_X12_fold_15 (hw12_r0 := hw) (hc_grouped := fun _ => ?_) (h := ?_) (hc_reachOf := ?_)
      · refine m_grouped hw q2 hp (fun v k hv hk => q4 v k hv hk (by omega)) hmd (fun f' r1 r2 => b_X12_fold_65 hw ?_)
        have q2' : Pg0 f' y p := q2.fr (fun k _ => r1 _ (by omega) k)
        rw [nd f' q2']
        refine H4 0 (Nat.zero_le _) f' ⟨q1.tr ⟨fun z z0 za zb zc j => r1 z (by omega) j, fun k _ _ => r1 _ (by omega) k, fun k _ => r1 _ (by omega) k⟩, q2', r2⟩ (fun r hr => absurd hr (Nat.not_lt_zero _))
      all_goals (intro c; exact absurd (le_r _) c)
    · intro k hk ih g q1 q2 q3 q4
      have S : ∀ x : Int32, (k % 6 < p 60 → x = nI (rchP p (k / 6) (k % 6))) → G X (Rm (d + 3)) mX12_fold 53 [(0, .ref y), (1, .int (nI md)), (2, .int (nI k))] [.int x, .int (nI k), .ref (y + 11)] (sI μ g) 0 0 K := by
        intro x hx
        refine b_X12_fold_53 (n0 := 18) (j0 := k) (hk_q0 := w12_k21 hw) (hi_j0 := rfl) (hb := hk) (h := ?_)
        rw [wi_sI, nI_1]
        refine ih _ (q1.us (by omega)) (q2.us (by omega)) (fun r hr => by rw [u2_x (by omega)]; exact q3 r hr) (fun v c hv hc hlt => ?_)
        by_cases q : 6 * v + c = k
        · rw [q, u2_s, hx (by omega), show k / 6 = v by omega, show k % 6 = c by omega]
        · rw [u2_k q]; exact q4 v c hv hc (by omega)
      refine b_X12_fold_15 (hw12_r0 := hw) (hc_grouped := fun c => absurd c (ge_c (n := 18) hk (by decide))) (h := fun _ c => S 0 (fun q => ?_)) (hc_reachOf := fun _ c => ?_)
      · rw [nd g q2, ixrem (by omega), nI_leI (by omega) (by omega)] at c
        omega
      · rw [nd g q2, ixrem (by omega), nI_leI (by omega) (by omega)] at c
        rw [ixrem (by omega), ixdiv (by omega)]
        exact m_reach hw q2 hp q3 (by omega) (by omega) (b_X12_fold_49 (S _ (fun _ => rfl)))
  refine Ct_of rfl (Nat.le_of_ble_eq_true rfl) (b_X12_fold_0 (hs := e_in01 _ _ _ _) (hw12_r0 := hw) (hc_routesAll := fun _ => ?_) (hK := fun c => absurd c fl))
  exact m_routes hw hg hp (fun f' r1 r2 => b_X12_fold_13 (H2 0 (Nat.zero_le _) f' (Fr.to2 r1) (hg.fr (fun k _ => r1 _ (by omega) k)) r2 (fun v c _ _ hlt => absurd hlt (Nat.not_lt_zero _))))
end P35
