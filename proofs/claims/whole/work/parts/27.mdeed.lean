theorem lg_lt0 (x y : Int64) : lg_cmp x y < 0 ↔ x.toInt < y.toInt := by
  unfold lg_cmp
  simp only [gt_iff_lt, Int64.lt_iff_toInt_lt, ← Int64.toInt_inj]
  split
  · exact ⟨fun q => absurd q (by decide), fun q => by omega⟩
  · split
    · exact ⟨fun q => absurd q (by decide), fun q => by omega⟩
    · exact ⟨fun _ => by omega, fun _ => by decide⟩
theorem lg_gt0 (x y : Int64) : 0 < lg_cmp x y ↔ y.toInt < x.toInt := by
  unfold lg_cmp
  simp only [gt_iff_lt, Int64.lt_iff_toInt_lt, ← Int64.toInt_inj]
  split
  · exact ⟨fun _ => by omega, fun _ => by decide⟩
  · split
    · exact ⟨fun q => absurd q (by decide), fun q => by omega⟩
    · exact ⟨fun q => absurd q (by decide), fun q => by omega⟩
theorem e_in (μ : mM) (g0 g2 g4 : Int64) : e_X12_in μ g0 g2 g4 = if g2.toInt ≤ g0.toInt ∧ g0.toInt ≤ g4.toInt then 1 else 0 := by
  unfold e_X12_in
  by_cases h1 : lg_cmp g0 g2 < 0
  · have := (lg_lt0 _ _).mp h1
    rw [if_pos h1, if_neg (by omega)]
  · have q1 : ¬ g0.toInt < g2.toInt := fun q => h1 ((lg_lt0 _ _).mpr q)
    rw [if_neg h1]
    by_cases h2 : 0 < lg_cmp g0 g4
    · have := (lg_gt0 _ _).mp h2
      rw [if_pos h2, if_neg (by omega)]
    · have q2 : ¬ g4.toInt < g0.toInt := fun q => h2 ((lg_gt0 _ _).mpr q)
      rw [if_neg h2, if_pos (by omega)]
theorem i64 (x : Int32) : x.toInt64.toInt = x.toInt := Int32.toInt_toInt64 x
theorem e_in01 (μ : mM) (g0 g2 g4 : Int64) : e_X12_in μ g0 g2 g4 = 0 ∨ e_X12_in μ g0 g2 g4 = 1 := by
  rw [e_in]
  split
  · exact Or.inr rfl
  · exact Or.inl rfl
theorem e_in0 {μ : mM} {g0 g2 g4 : Int64} : e_X12_in μ g0 g2 g4 = 0 ↔ ¬ (g2.toInt ≤ g0.toInt ∧ g0.toInt ≤ g4.toInt) := by
  rw [e_in]
  split
  · rename_i h; simp [h]
  · rename_i h; simp [h]
/-- what a call of the reference on the page may change: places behind the first page stay -/
def MFr (f f' : Nat → Nat → Int32) (y : Nat) : Prop := (∀ z, z ≠ y + 1 → ¬ (y + 7 ≤ z ∧ z ≤ y + 11) → z ≠ y + 13 → ∀ j, f' z j = f z j) ∧ ∀ k, 61 ≤ k → f' (y + 1) k = f (y + 1) k
theorem MFr.rf (f : Nat → Nat → Int32) (y : Nat) : MFr f f y := ⟨fun _ _ _ _ _ => rfl, fun _ _ => rfl⟩
theorem MFr.tr {f g h : Nat → Nat → Int32} {y : Nat} (h1 : MFr f g y) (h2 : MFr g h y) : MFr f h y := ⟨fun z a b c j => (h2.1 z a b c j).trans (h1.1 z a b c j), fun k hk => (h2.2 k hk).trans (h1.2 k hk)⟩
theorem MFr.up {f g : Nat → Nat → Int32} {y k : Nat} {v : Int32} (h1 : MFr f g y) (hk : k < 61) : MFr f (u2 g (y + 1) k v) y := ⟨fun z a b c j => by rw [u2_x a]; exact h1.1 z a b c j, fun i hi => by rw [u2_k (by omega)]; exact h1.2 i hi⟩
theorem MFr.us {f g : Nat → Nat → Int32} {y z0 k : Nat} {v : Int32} (h1 : MFr f g y) (hz : (y + 7 ≤ z0 ∧ z0 ≤ y + 11) ∨ z0 = y + 13) : MFr f (u2 g z0 k v) y := ⟨fun z a b c j => by rw [u2_x (by omega)]; exact h1.1 z a b c j, fun i hi => by rw [u2_x (by omega)]; exact h1.2 i hi⟩
theorem Pg0.up {f : Nat → Nat → Int32} {y j m : Nat} {p q : Nat → Nat} (h : Pg0 f y p) (hq : q j = m) (hn : ∀ k, k < 61 → k ≠ j → q k = p k) : Pg0 (u2 f (y + 1) j (nI m)) y q := fun k hk => by
  by_cases hkj : k = j
  · subst hkj; rw [u2_s, hq]
  · rw [u2_k hkj, hn k hk hkj]; exact h k hk
theorem Pg0.us {f : Nat → Nat → Int32} {y z j : Nat} {v : Int32} {p : Nat → Nat} (h : Pg0 f y p) (hz : z ≠ y + 1) : Pg0 (u2 f z j v) y p := fun k hk => by rw [u2_x (Ne.symm hz)]; exact h k hk
section P27
variable {X : cX} {d : Nat} {μ : mM} {K : Option Value → mM → Prop} {f : Nat → Nat → Int32} {y v w : Nat} {p : Nat → Nat}
theorem ix66 {i j : Nat} : ((6 : Int32) + ((6 : Int32) * (nI i))) + (nI j) = nI (6 + 6 * i + j) := by
  rw [show (6 : Int32) = nI 6 from rfl, pk_mul, nI_add, nI_add]
theorem ix24 {i j : Nat} : ((24 : Int32) + ((6 : Int32) * (nI i))) + (nI j) = nI (24 + 6 * i + j) := by
  rw [show (6 : Int32) = nI 6 from rfl, show (24 : Int32) = nI 24 from rfl, pk_mul, nI_add, nI_add]
theorem m_isAtAlone {t : Nat} {l2 : Int32} (hw : WF12 μ y) (hg : Pg0 f y p) (hv : v < 3) (ht : ∀ j, j < 6 → (nI j = l2 ↔ j = t)) (hK : ∀ f', MFr f f' y → Pg0 f' y (setR p v (fun j => if j = t then 2 else 0)) → K none (sI μ f')) : Ct X (Rm d) mX12_isAtAlone [.ref y, .int (nI v), .int l2] (sI μ f) K := by
  refine Ct_of rfl (Nat.le_of_ble_eq_true rfl) (b_X12_isAtAlone_0 ?_)
  have H : ∀ i, i ≤ 6 → ∀ g, MFr f g y → Pg0 g y (fun k => if 6 + 6 * v ≤ k ∧ k < 6 + 6 * v + i then (if k - (6 + 6 * v) = t then 2 else 0) else p k) → G X (Rm d) mX12_isAtAlone 2 [(0, .ref y), (1, .int (nI v)), (2, .int l2), (3, .int (nI i))] [] (sI μ g) 0 0 K := by
    refine dn 6 ?_ ?_
    · intro g h1 h2
      refine b_X12_isAtAlone_2 (hw12_r0 := hw) (hK := fun _ => hK g h1 ?_) (h := ?_) (h_2 := ?_)
      · intro k hk
        rw [h2 k hk]
        unfold setR
        dsimp only
        by_cases hq : 6 + 6 * v ≤ k ∧ k < 6 + 6 * v + 6
        · rw [if_pos hq, if_pos (show 6 + 6 * v ≤ k ∧ k < 12 + 6 * v by omega)]
        · rw [if_neg hq, if_neg (show ¬ (6 + 6 * v ≤ k ∧ k < 12 + 6 * v) by omega)]
      all_goals (intro c; exact absurd (le_r _) c)
    · intro i hi ih g h1 h2
      have step : ∀ b : Nat, b = (if i = t then 2 else 0) → G X (Rm d) mX12_isAtAlone 31 [(0, .ref y), (1, .int (nI v)), (2, .int l2), (3, .int (nI i))] [.int (nI b), .int (((6 : Int32) + ((6 : Int32) * (nI v))) + (nI i)), .ref (y + 1)] (sI μ g) 0 0 K := by
        intro b hb
        subst hb
        refine b_X12_isAtAlone_31 (n0 := 366) (j0 := 6 + 6 * v + i) (hk_q0 := w12_k0 hw) (hi_j0 := ix66) (hb := by omega) (h := ?_)
        rw [wi_sI]
        refine ih _ (h1.up (by omega)) (h2.up ?_ (fun k hk hne => ?_))
        · rw [if_pos (by omega), show 6 + 6 * v + i - (6 + 6 * v) = i by omega]
        · by_cases hq : 6 + 6 * v ≤ k ∧ k < 6 + 6 * v + i
          · rw [if_pos hq, if_pos (by omega)]
          · rw [if_neg hq, if_neg (by omega)]
      refine b_X12_isAtAlone_2 (hw12_r0 := hw) (hK := fun c => absurd c (ge_c (n := 6) hi (by decide))) (h := fun _ c => step 0 ?_) (h_2 := fun _ c => step 2 ?_)
      · rw [if_neg (fun q => c ((ht i hi).mpr q))]
      · rw [if_pos ((ht i hi).mp c)]
  exact H 0 (Nat.zero_le _) f (MFr.rf _ _) (fun k hk => by (try dsimp only); rw [if_neg (by omega)]; exact hg k hk)
theorem m_comes {m : Nat} (hw : WF12 μ y) (hg : Pg0 f y p) (hp : okP p) (hn : p 60 < 6) (hK : ∀ f', MFr f f' y → Pg0 f' y (app p m) → K none (sI μ f')) : Ct X (Rm (d + 1)) mX12_comes [.ref y, .int (nI m)] (sI μ f) K := by
  have nd : e_X12_nodes (sI μ f) y = nI (p 60) := hg 60 (by decide)
  obtain ⟨r1, r2, r3⟩ := hp.2.2.2.2 (p 60) (Nat.le_refl _) hn
  have z0 : ∀ (g : Nat → Nat → Int32) (q : Nat → Nat) (j : Nat), Pg0 g y q → q j = 0 → Pg0 (u2 g (y + 1) j 0) y q := fun g q j h hq => Pg0.up (m := 0) h hq (fun _ _ _ => rfl)
  refine Ct_of rfl (Nat.le_of_ble_eq_true rfl) (b_X12_comes_0 (j0 := p 60) (hw12_r0 := hw) (hi_j0 := nd) (hb := by omega) (h := ?_))
  rw [nd, wi_sI]
  have H2 : ∀ i, i ≤ 3 → ∀ g, MFr f g y → Pg0 g y (fun k => if k = p 60 then m else p k) → G X (Rm (d + 1)) mX12_comes 58 [(0, .ref y), (2, .int (nI (p 60))), (3, .int (nI i))] [] (sI μ g) 0 0 K := by
    refine dn 3 ?_ ?_
    · intro g h1 h2
      refine b_X12_comes_58 (j0 := 0) (hw12_r0 := hw) (hK := fun _ => ?_) (hi_j0 := ?_) (hb := ?_) (h := ?_)
      · have e : g (y + 1) 60 = nI (p 60) := by rw [h2 60 (by decide)]; dsimp only; rw [if_neg (by omega)]
        rw [iv_sI, e, nI_1, wi_sI]
        refine hK _ (h1.up (by decide)) (h2.up (app_60 p m) (fun k hk hne => ?_))
        unfold app
        rw [if_neg hne]
      all_goals (intro c; exact absurd (le_r _) c)
    · intro i hi ih g h1 h2
      refine b_X12_comes_58 (j0 := 6 + 6 * i + p 60) (hw12_r0 := hw) (hK := fun c => absurd c (ge_c (n := 3) hi (by decide))) (hi_j0 := fun _ => ix66) (hb := fun _ => by omega) (h := fun _ => ?_)
      rw [wi_sI]
      exact ih _ (h1.up (by omega)) (z0 _ _ _ h2 (by (try dsimp only); rw [if_neg (by omega)]; exact r2 i hi))
  have H1 : ∀ i, i ≤ 6 → ∀ g, MFr f g y → Pg0 g y (fun k => if k = p 60 then m else p k) → G X (Rm (d + 1)) mX12_comes 14 [(0, .ref y), (2, .int (nI (p 60))), (3, .int (nI i))] [] (sI μ g) 0 0 K := by
    refine dn 6 ?_ ?_
    · intro g h1 h2
      refine b_X12_comes_14 (j0 := 0) (j1 := 0) (hw12_r0 := hw) (h := fun _ => H2 0 (Nat.zero_le _) g h1 h2) (hi_j0 := ?_) (hb := ?_) (hi_j1 := ?_) (hb_2 := ?_) (h_2 := ?_) <;> (intro c; exact absurd (le_r _) c)
    · intro i hi ih g h1 h2
      refine b_X12_comes_14 (j0 := 24 + 6 * p 60 + i) (j1 := 24 + 6 * i + p 60) (hw12_r0 := hw) (h := fun c => absurd c (ge_c (n := 6) hi (by decide))) (hi_j0 := fun _ => ix24) (hb := fun _ => by omega) (hi_j1 := fun _ => ix24) (hb_2 := fun _ => by omega) (h_2 := fun _ => ?_)
      rw [wi_sI, wi_sI]
      refine ih _ ((h1.up (by omega)).up (by omega)) (z0 _ _ _ (z0 _ _ _ h2 ?_) ?_)
      · (try dsimp only); rw [if_neg (by omega)]; exact (r3 i hi).1
      · (try dsimp only); rw [if_neg (by omega)]; exact (r3 i hi).2
  exact H1 0 (Nat.zero_le _) _ ((MFr.rf f y).up (by omega)) (hg.up (if_pos rfl) (fun k hk hne => if_neg hne))
theorem m_becomesNext (hw : WF12 μ y) (hg : Pg0 f y p) (hp : okP p) (hv : v < 3) (hw3 : w < 3) (hK : ∀ f', MFr f f' y → Pg0 f' y (setR p v (dd2r p w)) → K none (sI μ f')) : Ct X (Rm (d + 1)) mX12_becomesNext [.ref y, .int (nI v), .int (nI w)] (sI μ f) K := by
  have h6 := hp.1
  refine Ct_of rfl (Nat.le_of_ble_eq_true rfl) (b_X12_becomesNext_0 ?_)
  have H3 : ∀ i, i ≤ 6 → ∀ g, MFr f g y → (∀ c, c < 6 → g (y + 9) c = nI (dd2r p w c)) → Pg0 g y (fun k => if 6 + 6 * v ≤ k ∧ k < 6 + 6 * v + i then dd2r p w (k - (6 + 6 * v)) else p k) → G X (Rm (d + 1)) mX12_becomesNext 73 [(0, .ref y), (1, .int (nI v)), (3, .int (nI i))] [] (sI μ g) 0 0 K := by
    refine dn 6 ?_ ?_
    · intro g h1 h2 h3
      refine b_X12_becomesNext_73 (hw12_r0 := hw) (hK := fun _ => hK g h1 ?_) (hb := ?_) (hb_2 := ?_) (h := ?_)
      · intro k hk
        rw [h3 k hk]
        unfold setR
        dsimp only
        by_cases hq : 6 + 6 * v ≤ k ∧ k < 6 + 6 * v + 6
        · rw [if_pos hq, if_pos (show 6 + 6 * v ≤ k ∧ k < 12 + 6 * v by omega)]
        · rw [if_neg hq, if_neg (show ¬ (6 + 6 * v ≤ k ∧ k < 12 + 6 * v) by omega)]
      all_goals (intro c; exact absurd (le_r _) c)
    · intro i hi ih g h1 h2 h3
      refine b_X12_becomesNext_73 (hw12_r0 := hw) (hK := fun c => absurd c (ge_c (n := 6) hi (by decide))) (hb := fun _ => by omega) (hb_2 := fun _ => by omega) (h := fun _ => ?_)
      rw [iv_sI, h2 i hi, wi_sI]
      refine ih _ (h1.up (by omega)) (fun c hc => by rw [u2_x (by omega)]; exact h2 c hc) (h3.up ?_ (fun k hk hne => ?_))
      · rw [if_pos (by omega), show 6 + 6 * v + i - (6 + 6 * v) = i by omega]
      · by_cases hq : 6 + 6 * v ≤ k ∧ k < 6 + 6 * v + i
        · rw [if_pos hq, if_pos (by omega)]
        · rw [if_neg hq, if_neg (by omega)]
  have H2 : ∀ j, j < 6 → ∀ i, i ≤ p 60 → ∀ g, MFr f g y → Pg0 g y p → (∀ c, c < j → g (y + 9) c = nI (dd2r p w c)) → g (y + 9) j = nI (mxo (fun i => min (p (6 + 6 * w + i)) (p (24 + 6 * i + j))) i) → (∀ g', MFr f g' y → Pg0 g' y p → (∀ c, c < j + 1 → g' (y + 9) c = nI (dd2r p w c)) → G X (Rm (d + 1)) mX12_becomesNext 2 [(0, .ref y), (1, .int (nI v)), (2, .int (nI w)), (3, .int (nI (j + 1)))] [] (sI μ g') 0 0 K) → G X (Rm (d + 1)) mX12_becomesNext 18 [(0, .ref y), (1, .int (nI v)), (2, .int (nI w)), (3, .int (nI j)), (4, .int (nI i))] [] (sI μ g) 0 0 K := by
    intro j hj
    refine dn (p 60) ?_ ?_
    · intro g h1 h2 h3 h4 hc
      have nd : e_X12_nodes (sI μ g) y = nI (p 60) := h2 60 (by decide)
      refine b_X12_becomesNext_18 (hw12_r0 := hw) (h := fun _ => hc g h1 h2 (fun c hcj => ?_)) (hb := ?_) (hs := ?_) (hs_2 := ?_) (h_2 := ?_)
      · by_cases e : c = j
        · subst e; exact h4
        · exact h3 c (by omega)
      all_goals (intro c; rw [nd] at c; exact absurd (le_r _) c)
    · intro i hi ih g h1 h2 h3 h4 hc
      have nd : e_X12_nodes (sI μ g) y = nI (p 60) := h2 60 (by decide)
      have e1 : e_X12_atOf (sI μ g) y w i = nI (p (6 + 6 * w + i)) := h2 _ (by omega)
      have e2 : e_X12_nextOf (sI μ g) y i j = nI (p (24 + 6 * i + j)) := h2 _ (by omega)
      have a1 := hp.2.2.1 w i hw3 (by omega)
      have a2 := hp.2.2.2.1 i j (by omega) hj
      have a3 : mxo (fun i => min (p (6 + 6 * w + i)) (p (24 + 6 * i + j))) i ≤ 2 := mxo_le (fun k hk => by have := hp.2.2.1 w k hw3 (by omega); show min _ _ ≤ 2; omega)
      refine b_X12_becomesNext_18 (hw12_r0 := hw) (h := fun c => absurd c (by rw [nd]; exact ge_c hi (by omega))) (hb := fun _ => by omega) (hs := fun _ => by omega) (hs_2 := fun _ => by omega) (h_2 := fun _ => ?_)
      rw [e1, e2, iv_sI, h4, andI _ (by omega) (by omega), orI _ (by omega) (by omega), wi_sI]
      exact ih _ (h1.us (by omega)) (h2.us (by omega)) (fun c hcj => by rw [u2_k (by omega)]; exact h3 c hcj) (by rw [u2_s]; rfl) hc
  have H1 : ∀ j, j ≤ 6 → ∀ g, MFr f g y → Pg0 g y p → (∀ c, c < j → g (y + 9) c = nI (dd2r p w c)) → G X (Rm (d + 1)) mX12_becomesNext 2 [(0, .ref y), (1, .int (nI v)), (2, .int (nI w)), (3, .int (nI j))] [] (sI μ g) 0 0 K := by
    refine dn 6 ?_ ?_
    · intro g h1 h2 h3
      refine b_X12_becomesNext_2 (hw12_r0 := hw) (h := fun _ => H3 0 (Nat.zero_le _) g h1 h3 (fun k hk => by (try dsimp only); rw [if_neg (by omega)]; exact h2 k hk)) (hb := ?_) (h_2 := ?_) <;> (intro c; exact absurd (le_r _) c)
    · intro j hj ih g h1 h2 h3
      refine b_X12_becomesNext_2 (hw12_r0 := hw) (h := fun c => absurd c (ge_c (n := 6) hj (by decide))) (hb := fun _ => by omega) (h_2 := fun _ => ?_)
      rw [wi_sI]
      exact H2 j hj 0 (Nat.zero_le _) _ (h1.us (by omega)) (h2.us (by omega)) (fun c hcj => by rw [u2_k (by omega)]; exact h3 c hcj) (by rw [u2_s]; rfl) ih
  exact H1 0 (Nat.zero_le _) f (MFr.rf _ _) hg (fun c hc => absurd hc (Nat.not_lt_zero _))
end P27
