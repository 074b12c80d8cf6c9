section P31
variable {X : cX} {d : Nat} {μ : mM} {K : Option Value → mM → Prop} {f : Nat → Nat → Int32} {a b y v w : Nat} {p : Nat → Nat}
/-- six places of the reference's page move down -/
theorem m_movesDown {lo i : Nat} {g : Nat → Nat} (hw : WF12 μ y) (hi : i < 6) (hlo : lo + 6 ≤ 366) (hg : ∀ j, j < 6 → f (y + 1) (lo + j) = nI (g j)) (hK : ∀ f', (∀ z, z ≠ y + 1 → ∀ j, f' z j = f z j) → (∀ j, (j < lo ∨ lo + 6 ≤ j) → f' (y + 1) j = f (y + 1) j) → (∀ j, j < 6 → f' (y + 1) (lo + j) = nI (rm1 g i j)) → K none (sI μ f')) : Ct X (Rm d) mX12_movesDown [.ref y, .int (nI lo), .int (nI i)] (sI μ f) K := by
  refine Ct_of rfl (Nat.le_of_ble_eq_true rfl) (b_X12_movesDown_0 ?_)
  have H : ∀ c, c ≤ 5 → i ≤ c → ∀ h, (∀ z, z ≠ y + 1 → ∀ j, h z j = f z j) → (∀ j, (j < lo ∨ lo + 6 ≤ j) → h (y + 1) j = f (y + 1) j) → (∀ j, j < 6 → h (y + 1) (lo + j) = nI (if j < c then rm1 g i j else g j)) → G X (Rm d) mX12_movesDown 2 [(0, .ref y), (1, .int (nI lo)), (3, .int (nI c))] [] (sI μ h) 0 0 K := by
    refine dn 5 ?_ ?_
    · intro _ h h1 h2 h3
      refine b_X12_movesDown_2 (hw12_r0 := hw) (hb := fun _ => by omega) (hK := fun _ => ?_) (hb_2 := ?_) (hb_3 := ?_) (h := ?_)
      · rw [wi_sI]
        refine hK _ (fun z hz j => by rw [u2_x hz]; exact h1 z hz j) (fun j hj => by rw [u2_k (by omega)]; exact h2 j hj) (fun j hj => ?_)
        by_cases q : j = 5
        · subst q; rw [u2_s, rm1_hi (by omega) (by omega)]; rfl
        · rw [u2_k (by omega), h3 j hj, if_pos (by omega)]
      all_goals (intro c; exact absurd (le_r _) c)
    · intro c hc ih hic h h1 h2 h3
      refine b_X12_movesDown_2 (hw12_r0 := hw) (hb := fun q => absurd q (ge_c (n := 5) hc (by decide))) (hK := fun q => absurd q (ge_c (n := 5) hc (by decide))) (hb_2 := fun _ => by omega) (hb_3 := fun _ => by omega) (h := fun _ => ?_)
      have e := h3 (c + 1) (by omega)
      rw [if_neg (by omega), ← Nat.add_assoc] at e
      rw [iv_sI, e, wi_sI]
      refine ih (by omega) _ (fun z hz j => by rw [u2_x hz]; exact h1 z hz j) (fun j hj => by rw [u2_k (by omega)]; exact h2 j hj) (fun j hj => ?_)
      by_cases q : j = c
      · subst q; rw [u2_s, if_pos (by omega), rm1_mi hic hc]
      · rw [u2_k (by omega), h3 j hj]
        by_cases q2 : j < c
        · rw [if_pos q2, if_pos (by omega)]
        · rw [if_neg q2, if_neg (by omega)]
  refine H i (by omega) (Nat.le_refl _) f (fun _ _ _ => rfl) (fun _ _ => rfl) (fun j hj => ?_)
  rw [hg j hj]
  by_cases q : j < i
  · rw [if_pos q, rm1_lo q]
  · rw [if_neg q]
theorem MFr.md {f g h : Nat → Nat → Int32} {y lo : Nat} (h0 : MFr f g y) (hlo : lo + 6 ≤ 61) (h1 : ∀ z, z ≠ y + 1 → ∀ j, h z j = g z j) (h2 : ∀ j, (j < lo ∨ lo + 6 ≤ j) → h (y + 1) j = g (y + 1) j) : MFr f h y := ⟨fun z a b c j => (h1 z a j).trans (h0.1 z a b c j), fun k hk => (h2 k (by omega)).trans (h0.2 k hk)⟩
theorem e_isNode {i : Nat} (hg : f (y + 1) 60 = nI (p 60)) (h6 : p 60 ≤ 6) (hi : i < 2 ^ 32) : e_X12_isNode (sI μ f) y (nI i) = 0 ↔ ¬ i < p 60 := by
  unfold e_X12_isNode
  rw [e_in0, i64, i64, nI_u hi]
  have e0 : (0 : Int64).toInt = 0 := by decide
  have e1 : e_X12_nodes (sI μ f) y = nI (p 60) := hg
  have e2 : (nI (p 60) - 1).toInt = (p 60 : Int) - 1 := pk_sub_toInt (b := 1) (by omega) (by decide)
  rw [e0, e1, e2]
  split <;> omega
theorem e_has {i : Nat} (hg : f a 0 = nI (p 60)) (h6 : p 60 ≤ 6) (hi : i < 2 ^ 32) : e_X5_has (sI μ f) a (nI i) = 0 ↔ ¬ i < p 60 := by
  unfold e_X5_has
  have e1 : (1 : Int32) ≠ 0 := by decide
  rw [iv_sI, hg]
  by_cases q : nI i < 0
  · rw [if_pos q]
    rw [lt0 hi] at q
    simp; omega
  · rw [if_neg q]
    rw [lt0 hi] at q
    by_cases q2 : i < p 60
    · rw [if_neg (ge_c q2 (by omega))]; simp [e1, q2]
    · rw [if_pos (nI_le (by omega) (by omega))]; simp [q2]
theorem m_lose {i : Nat} (hw : WF12 μ y) (hg : Pg0 f y p) (hp : okP p) (hi : i < p 60) (hK : ∀ f', MFr f f' y → Pg0 f' y (los p i) → K (some (.int (nI (p 60 - 1)))) (sI μ f')) : Ct X (Rm (d + 2)) mX12_lose [.ref y, .int (nI i)] (sI μ f) K := by
  have h6 := hp.1
  have nd := e_isNode (μ := μ) (i := i) (hg 60 (by decide)) h6 (by omega)
  -- the columns
  have H5 : ∀ c, c ≤ 6 → ∀ g, MFr f g y → T4 g y 0 (p 60) (rm1 p i) (losA p i) (fun r k => if r < c then losN p i r k else rm1 (fun r' => p (24 + 6 * r' + k)) i r) → G X (Rm (d + 2)) mX12_lose 125 [(0, .ref y), (1, .int (nI i)), (2, .int (nI c))] [] (sI μ g) 0 0 K := by
    refine dn 6 ?_ ?_
    · intro g h1 h2
      refine b_X12_lose_125 (hw12_r0 := hw) (hK := fun _ => ?_) (hc_movesDown := ?_)
      · have e1 : iv (sI μ g) (y + 1) 60 = nI (p 60) := h2.1
        have e2 : nI (p 60) - 1 = nI (p 60 - 1) := pk_sub (b := 1) (by omega)
        rw [e1, e2, wi_sI]
        have h3 : T4 _ y 0 _ _ _ (losN p i) := (h2.uz (p 60 - 1)).cg (fun _ _ => rfl) (fun _ _ _ _ => rfl) (fun r k hr hk => by (try dsimp only); rw [if_pos hr])
        have e3 : e_X12_nodes (sI μ (u2 g (y + 1) 60 (nI (p 60 - 1)))) y = nI (p 60 - 1) := by
          show u2 g (y + 1) 60 (nI (p 60 - 1)) (y + 1) 60 = _
          rw [u2_s]
        rw [e3]
        exact hK _ (h1.up (by omega)) (Pg_0.mp (T4_pg h3))
      · intro c; exact absurd (le_r _) c
    · intro c hc ih g h1 h2
      refine b_X12_lose_125 (hw12_r0 := hw) (hK := fun q => absurd q (ge_c (n := 6) hc (by decide))) (hc_movesDown := fun _ => ?_)
      rw [show (24 : Int32) + (6 : Int32) * nI c = nI (24 + 6 * c) by rw [show (24 : Int32) = nI 24 from rfl, show (6 : Int32) = nI 6 from rfl, pk_mul, nI_add]]
      refine m_movesDown (g := fun k => rm1 (fun r' => p (24 + 6 * r' + k)) i c) hw (by omega) (by omega) (fun j hj => ?_) (fun f' q1 q2 q3 => b_X12_lose_143 (ih f' (h1.md (by omega) q1 q2) ⟨?_, fun k hk => ?_, fun u k hu hk => ?_, fun r k hr hk => ?_⟩))
      · have := h2.2.2.2 c j hc hj
        (try dsimp only at this)
        rw [if_neg (by omega), Nat.zero_add] at this
        exact this
      · rw [q2 _ (by omega)]; exact h2.1
      · rw [q2 _ (by omega)]; exact h2.2.1 k hk
      · rw [q2 _ (by omega)]; exact h2.2.2.1 u k hu hk
      · (try dsimp only)
        by_cases q : r = c
        · subst q
          have := q3 k hk
          rw [if_pos (by omega), Nat.zero_add, this]
          unfold losN
          rw [rm1_sw (fun r' c' => p (24 + 6 * r' + c'))]
        · rw [q2 _ (by omega), h2.2.2.2 r k hr hk]
          (try dsimp only)
          by_cases q2 : r < c
          · rw [if_pos q2, if_pos (by omega)]
          · rw [if_neg q2, if_neg (by omega)]
  -- the last row becomes no
  have H4 : ∀ c, c ≤ 6 → ∀ g, MFr f g y → T4 g y 0 (p 60) (rm1 p i) (losA p i) (fun r k => if r < 5 ∨ k < c then rm1 (fun r' => p (24 + 6 * r' + k)) i r else p (24 + 6 * r + k)) → G X (Rm (d + 2)) mX12_lose 101 [(0, .ref y), (1, .int (nI i)), (2, .int (nI c))] [] (sI μ g) 0 0 K := by
    refine dn 6 ?_ ?_
    · intro g h1 h2
      refine b_X12_lose_101 (hw12_r0 := hw) (h := fun _ => H5 0 (Nat.zero_le _) g h1 (h2.cg (fun _ _ => rfl) (fun _ _ _ _ => rfl) (fun r k hr hk => ?_))) (hb := ?_) (h_2 := ?_)
      · (try dsimp only)
        rw [if_neg (Nat.not_lt_zero _), if_pos (Or.inr hk)]
      all_goals (intro c; exact absurd (le_r _) c)
    · intro c hc ih g h1 h2
      refine b_X12_lose_101 (hw12_r0 := hw) (h := fun q => absurd q (ge_c (n := 6) hc (by decide))) (hb := fun _ => by omega) (h_2 := fun _ => ?_)
      rw [wi_sI]
      have h3 := T4.uN (i := 5) (j := c) (n := 0) (N' := fun r k => if r < 5 ∨ k < c + 1 then rm1 (fun r' => p (24 + 6 * r' + k)) i r else p (24 + 6 * r + k)) h2 (by decide) hc (by (try dsimp only); rw [if_pos (by omega), rm1_hi (by omega) (by omega)]) (fun r k hr hk hne => by
        (try dsimp only)
        by_cases q : r < 5 ∨ k < c
        · rw [if_pos q, if_pos (by omega)]
        · rw [if_neg q, if_neg (by omega)])
      rw [Nat.zero_add] at h3
      exact ih _ (h1.up (by omega)) h3
  -- the rows move up
  have H3 : ∀ c, c ≤ 5 → i ≤ c → ∀ g, MFr f g y → T4 g y 0 (p 60) (rm1 p i) (losA p i) (fun r k => if r < c then rm1 (fun r' => p (24 + 6 * r' + k)) i r else p (24 + 6 * r + k)) → G X (Rm (d + 2)) mX12_lose 43 [(0, .ref y), (1, .int (nI i)), (2, .int (nI c))] [] (sI μ g) 0 0 K := by
    refine dn 5 ?_ ?_
    · intro _ g h1 h2
      refine b_X12_lose_43 (h := fun _ => H4 0 (Nat.zero_le _) g h1 (h2.cg (fun _ _ => rfl) (fun _ _ _ _ => rfl) (fun r k hr hk => ?_))) (h_2 := ?_)
      · (try dsimp only)
        by_cases q : r < 5
        · rw [if_pos q, if_pos (Or.inl q)]
        · rw [if_neg q, if_neg (by omega)]
      all_goals (intro c; exact absurd (le_r _) c)
    · intro c hc ih hic g h1 h2
      refine b_X12_lose_43 (h := fun q => absurd q (ge_c (n := 5) hc (by decide))) (h_2 := fun _ => ?_)
      have H : ∀ e, e ≤ 6 → ∀ g, MFr f g y → T4 g y 0 (p 60) (rm1 p i) (losA p i) (fun r k => if r < c ∨ (r = c ∧ k < e) then rm1 (fun r' => p (24 + 6 * r' + k)) i r else p (24 + 6 * r + k)) → G X (Rm (d + 2)) mX12_lose 50 [(0, .ref y), (1, .int (nI i)), (2, .int (nI c)), (3, .int (nI e))] [] (sI μ g) 0 0 K := by
        refine dn 6 ?_ ?_
        · intro g h1 h2
          refine b_X12_lose_50 (hw12_r0 := hw) (h := fun _ => ih (by omega) g h1 (h2.cg (fun _ _ => rfl) (fun _ _ _ _ => rfl) (fun r k hr hk => ?_))) (hb := ?_) (hb_2 := ?_) (h_2 := ?_)
          · (try dsimp only)
            by_cases q : r < c + 1
            · rw [if_pos q, if_pos (by omega)]
            · rw [if_neg q, if_neg (by omega)]
          all_goals (intro c; exact absurd (le_r _) c)
        · intro e he ih2 g h1 h2
          refine b_X12_lose_50 (hw12_r0 := hw) (h := fun q => absurd q (ge_c (n := 6) he (by decide))) (hb := fun _ => by omega) (hb_2 := fun _ => by omega) (h_2 := fun _ => ?_)
          have q1 := h2.2.2.2 (c + 1) e (by omega) he
          (try dsimp only at q1)
          rw [if_neg (by omega), Nat.zero_add, show 24 + 6 * (c + 1) + e = 24 + 6 * c + 6 + e by omega] at q1
          rw [iv_sI, q1, wi_sI]
          have h3 := T4.uN (i := c) (j := e) (n := p (24 + 6 * c + 6 + e)) (N' := fun r k => if r < c ∨ (r = c ∧ k < e + 1) then rm1 (fun r' => p (24 + 6 * r' + k)) i r else p (24 + 6 * r + k)) h2 (by omega) he (by (try dsimp only); rw [if_pos (by omega), rm1_mi hic hc]; congr 1) (fun r k hr hk hne => by
            (try dsimp only)
            by_cases q : r < c ∨ (r = c ∧ k < e)
            · rw [if_pos q, if_pos (by omega)]
            · rw [if_neg q, if_neg (by omega)])
          rw [Nat.zero_add] at h3
          exact ih2 _ (h1.up (by omega)) h3
      refine H 0 (Nat.zero_le _) g h1 (h2.cg (fun _ _ => rfl) (fun _ _ _ _ => rfl) (fun r k hr hk => ?_))
      (try dsimp only)
      by_cases q : r < c
      · rw [if_pos q, if_pos (by omega)]
      · rw [if_neg q, if_neg (by omega)]
  have H2 : ∀ c, c ≤ 3 → ∀ g, MFr f g y → T4 g y 0 (p 60) (rm1 p i) (fun u k => if u < c then losA p i u k else p (6 + 6 * u + k)) (fun r k => p (24 + 6 * r + k)) → G X (Rm (d + 2)) mX12_lose 18 [(0, .ref y), (1, .int (nI i)), (2, .int (nI c))] [] (sI μ g) 0 0 K := by
    refine dn 3 ?_ ?_
    · intro g h1 h2
      refine b_X12_lose_18 (hw12_r0 := hw) (h := fun _ => H3 i (by omega) (Nat.le_refl _) g h1 (h2.cg (fun _ _ => rfl) (fun u k hu hk => ?_) (fun r k hr hk => ?_))) (hc_movesDown := ?_)
      · (try dsimp only)
        rw [if_pos hu]
      · (try dsimp only)
        by_cases q : r < i
        · rw [if_pos q, rm1_lo q]
        · rw [if_neg q]
      all_goals (intro c; exact absurd (le_r _) c)
    · intro c hc ih g h1 h2
      refine b_X12_lose_18 (hw12_r0 := hw) (h := fun q => absurd q (ge_c (n := 3) hc (by decide))) (hc_movesDown := fun _ => ?_)
      rw [show (6 : Int32) + (6 : Int32) * nI c = nI (6 + 6 * c) by rw [show (6 : Int32) = nI 6 from rfl, pk_mul, nI_add]]
      refine m_movesDown (g := fun k => p (6 + 6 * c + k)) hw (by omega) (by omega) (fun j hj => ?_) (fun f' q1 q2 q3 => b_X12_lose_35 (ih f' (h1.md (by omega) q1 q2) ⟨?_, fun k hk => ?_, fun u k hu hk => ?_, fun r k hr hk => ?_⟩))
      · have := h2.2.2.1 c j hc hj
        (try dsimp only at this)
        rw [if_neg (by omega), Nat.zero_add] at this
        exact this
      · rw [q2 _ (by omega)]; exact h2.1
      · rw [q2 _ (by omega)]; exact h2.2.1 k hk
      · (try dsimp only)
        by_cases q : u = c
        · subst q
          rw [if_pos (by omega), Nat.zero_add]
          exact q3 k hk
        · rw [q2 _ (by omega), h2.2.2.1 u k hu hk]
          (try dsimp only)
          by_cases q2 : u < c
          · rw [if_pos q2, if_pos (by omega)]
          · rw [if_neg q2, if_neg (by omega)]
      · rw [q2 _ (by omega)]; exact h2.2.2.2 r k hr hk
  refine Ct_of rfl (Nat.le_of_ble_eq_true rfl) (b_X12_lose_0 (hw12_r0 := hw) (hs := e_in01 _ _ _ _) (hc_movesDown := fun _ => ?_) (hK := fun c => absurd hi (nd.mp c)))
  have h0 := T4_of (Pg_0.mpr hg)
  refine m_movesDown (lo := 0) (g := p) hw (by omega) (by omega) (fun j hj => h0.2.1 j hj) (fun f' q1 q2 q3 => b_X12_lose_16 (H2 0 (Nat.zero_le _) f' ((MFr.rf f y).md (by omega) q1 q2) ⟨?_, fun k hk => q3 k hk, fun u k hu hk => ?_, fun r k hr hk => ?_⟩))
  · rw [q2 _ (by omega)]; exact h0.1
  · (try dsimp only)
    rw [if_neg (Nat.not_lt_zero _), q2 _ (by omega)]; exact h0.2.2.1 u k hu hk
  · rw [q2 _ (by omega)]; exact h0.2.2.2 r k hr hk
end P31
