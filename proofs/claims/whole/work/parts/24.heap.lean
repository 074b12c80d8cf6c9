theorem sq_add (p : Nat → Nat) (t k0 : Nat) : ∀ m, sq p t k0 6 m = cq p t k0 (6 * m)
  | 0 => rfl
  | m + 1 => by
    show sq p t k0 6 m + cq p t (k0 + 6 * m) 6 = cq p t k0 (6 * (m + 1))
    rw [sq_add p t k0 m, show 6 * (m + 1) = 6 * m + 6 by omega, cq_add]
theorem cq_all0 {p : Nat → Nat} {t k0 n : Nat} (ht : t ≠ 0) (h : ∀ j, j < n → p (k0 + j) = 0) : cq p t k0 n = 0 := by
  have := cq_zero (p := p) (t := t) (k0 := k0) (m := 0) (n := n) ht (fun j _ h2 => h j (by omega))
  rw [Nat.zero_add] at this
  exact this
theorem cq_n6 {p : Nat → Nat} (hp : okP p) {t k0 : Nat} (ht : t ≠ 0) (h : ∀ j, p 60 ≤ j → j < 6 → p (k0 + j) = 0) : cq p t k0 6 = cq p t k0 (p 60) := by
  have h6 := hp.1
  have := cq_zero (p := p) (t := t) (k0 := k0) (m := p 60) (n := 6 - p 60) ht (fun j h1 h2 => h j h1 (by omega))
  rw [show p 60 + (6 - p 60) = 6 by omega] at this
  exact this
theorem cq_at {p : Nat → Nat} (hp : okP p) {t v : Nat} (ht : t ≠ 0) (hv : v < 3) : cq p t (6 + 6 * v) 6 = cq p t (6 + 6 * v) (p 60) := cq_n6 hp ht (fun j h1 h2 => ((hp.2.2.2.2 j h1 h2).2.1 v hv))
theorem cq_nx {p : Nat → Nat} (hp : okP p) {t i : Nat} (ht : t ≠ 0) (hi : i < 6) : cq p t (24 + 6 * i) 6 = cq p t (24 + 6 * i) (p 60) := cq_n6 hp ht (fun j h1 h2 => ((hp.2.2.2.2 j h1 h2).2.2 i hi).2)
theorem cq_nz {p : Nat → Nat} (hp : okP p) {t i : Nat} (ht : t ≠ 0) (h1 : p 60 ≤ i) (h2 : i < 6) : cq p t (24 + 6 * i) 6 = 0 := cq_all0 ht (fun j hj => ((hp.2.2.2.2 i h1 h2).2.2 j hj).1)
theorem sq_at {p : Nat → Nat} (hp : okP p) {t : Nat} (ht : t ≠ 0) : sq p t 6 (p 60) 3 = cq p t 6 18 := by
  have h : ∀ m, m ≤ 3 → sq p t 6 (p 60) m = sq p t 6 6 m := by
    intro m
    induction m with
    | zero => intro _; rfl
    | succ m ih => intro hm; show sq p t 6 (p 60) m + _ = sq p t 6 6 m + _; rw [ih (by omega), cq_at hp ht (by omega)]
  rw [h 3 (Nat.le_refl _), sq_add]
theorem sq_nx {p : Nat → Nat} (hp : okP p) {t : Nat} (ht : t ≠ 0) : sq p t 24 (p 60) (p 60) = cq p t 24 36 := by
  have h6 := hp.1
  have h : ∀ m, m ≤ p 60 → sq p t 24 (p 60) m = sq p t 24 6 m := by
    intro m
    induction m with
    | zero => intro _; rfl
    | succ m ih => intro hm; show sq p t 24 (p 60) m + _ = sq p t 24 6 m + _; rw [ih (by omega), cq_nx hp ht (by omega)]
  have h2 : ∀ m, p 60 + m ≤ 6 → sq p t 24 6 (p 60 + m) = sq p t 24 6 (p 60) := by
    intro m
    induction m with
    | zero => intro _; rfl
    | succ m ih => intro hm; show sq p t 24 6 (p 60 + m) + cq p t (24 + 6 * (p 60 + m)) 6 = _; rw [ih (by omega), cq_nz hp ht (by omega) (by omega)]; rfl
  rw [h _ (Nat.le_refl _), ← h2 (6 - p 60) (by omega), show p 60 + (6 - p 60) = 6 by omega, sq_add]
theorem cq_many {p : Nat → Nat} (hp : okP p) : cq p 1 0 6 = cq p 1 0 (p 60) := cq_n6 hp (by decide) (fun j h1 h2 => by rw [Nat.zero_add]; exact (hp.2.2.2.2 j h1 h2).1)
/-- whether it is a heap, by the first i rows -/
def hb (p : Nat → Nat) : Nat → Nat
  | 0 => if cq p 1 0 6 = 0 ∧ cq p 1 6 54 = 0 then 1 else 0
  | i + 1 => if hb p i = 0 then 0 else (if cq p 2 (6 + 6 * i) 6 < 2 then 1 else 0)
theorem hb_le (p : Nat → Nat) : ∀ i, hb p i ≤ 1
  | 0 => by unfold hb; split <;> omega
  | i + 1 => by
    unfold hb
    split
    · omega
    · split <;> omega
theorem hb_0 {p : Nat → Nat} {i : Nat} (h : hb p i = 0) : ∀ k, hb p (i + k) = 0
  | 0 => h
  | k + 1 => by show (if hb p (i + k) = 0 then 0 else _) = 0; rw [if_pos (hb_0 h k)]
theorem hb_tail {p : Nat → Nat} (hp : okP p) : ∀ m, p 60 + m ≤ 6 → hb p (3 + p 60 + m) = hb p (3 + p 60)
  | 0, _ => rfl
  | m + 1, hm => by
    show (if hb p (3 + p 60 + m) = 0 then 0 else (if cq p 2 (6 + 6 * (3 + p 60 + m)) 6 < 2 then 1 else 0)) = _
    rw [hb_tail hp m (by omega)]
    have e : cq p 2 (6 + 6 * (3 + p 60 + m)) 6 = 0 := by
      rw [show 6 + 6 * (3 + p 60 + m) = 24 + 6 * (p 60 + m) by omega]
      exact cq_nz hp (by decide) (by omega) (by omega)
    have := hb_le p (3 + p 60)
    rw [e]
    split
    · omega
    · rw [if_pos (by decide)]; omega
section P24
variable {X : cX} {d : Nat} {μ : mM} {K : Option Value → mM → Prop} {f : Nat → Nat → Int32} {a y v : Nat} {p : Nat → Nat}
theorem c_isHeap (hw : WF5 μ a) (hs : Sh f a p) (hp : okP p) (hK : K (some (.int (nI (hb p 9)))) (sI μ f)) : Ct X (Rm (d + 2)) mX5_isHeap [.ref a] (sI μ f) K := by
  have h6 := hp.1
  have e9 : hb p 9 = hb p (3 + p 60) := by
    have := hb_tail hp (6 - p 60) (by omega)
    rw [show 3 + p 60 + (6 - p 60) = 9 by omega] at this
    exact this
  have l1 := cq_le p 1 0 (p 60)
  have split54 : cq p 1 6 54 = sq p 1 6 (p 60) 3 + sq p 1 24 (p 60) (p 60) := by
    rw [sq_at hp (by decide), sq_nx hp (by decide), show 54 = 18 + 36 from rfl, cq_add]
  have b54 := cq_le p 1 6 54
  have b36 := cq_le p 1 24 36
  have b18 := cq_le p 1 6 18
  have bs := sq_at hp (t := 1) (by decide)
  have bt := sq_nx hp (t := 1) (by decide)
  refine Ct_of rfl (Nat.le_of_ble_eq_true rfl) (b_X5_isHeap_0 hw ?_)
  -- the rows of next
  have H2 : ∀ i, i ≤ p 60 → G X (Rm (d + 2)) mX5_isHeap 69 [(0, .ref a), (1, .int (nI (hb p (3 + i)))), (2, .int (nI i))] [] (sI μ f) 0 0 K := by
    refine dn (p 60) ?_ ?_
    · refine b_X5_isHeap_69 (hw5_r0 := hw) (hK := fun _ => by rw [← e9]; exact hK) (hz := fun _ => b01 (hb_le p _)) (hK_2 := ?_) (hz_2 := ?_) (hb := ?_) (hc_cellsThatAre := ?_) <;> (intro c; rw [iv_sI, hs.1] at c; exact absurd (le_r _) c)
    · intro i hi ih
      have hle := hb_le p (3 + i)
      refine b_X5_isHeap_69 (hw5_r0 := hw) (hK := fun c => absurd c (by rw [iv_sI, hs.1]; exact ge_c hi (by omega))) (hz := fun _ => b01 (hb_le p _)) (hK_2 := fun _ c => ?_) (hz_2 := fun _ _ => b01 (hb_le p _)) (hb := fun _ _ => by omega) (hc_cellsThatAre := fun _ c => ?_)
      · rw [nI_z (by omega)] at c
        have := hb_0 c (6 - i)
        rw [show 3 + i + (6 - i) = 9 by omega] at this
        rw [c]
        rw [this] at hK
        exact hK
      · rw [nI_z (by omega)] at c
        have hi6 : i < 6 := by omega
        have hstep : hb p (3 + (i + 1)) = if cq p 2 (24 + 6 * i) (p 60) < 2 then 1 else 0 := by
          show (if hb p (3 + i) = 0 then 0 else (if cq p 2 (6 + 6 * (3 + i)) 6 < 2 then 1 else 0)) = _
          rw [if_neg c, show 6 + 6 * (3 + i) = 24 + 6 * i by omega, cq_nx hp (by decide) hi6]
        have hcl := cq_le p 2 (24 + 6 * i) (p 60)
        refine c_cells (t := 2) (k0 := 24 + 6 * i) hw hs hp (w5_q3 hw i hi6) (fun j hj => hs.2.2.2 i j hi6 hj) (fun j hj => hp.2.2.2.1 i j hi6 hj) (by decide) ?_
        refine b_X5_isHeap_92 (h := fun c2 => b_X5_isHeap_101 ?_) (h_2 := fun c2 => b_X5_isHeap_101 ?_)
        · have c3 : 1 < cq p 2 (24 + 6 * i) (p 60) := (nI_ltI (a := 1) (by decide) (by omega)).mp c2
          rw [hstep, if_neg (by omega)] at ih
          exact ih
        · have c3 : ¬ 1 < cq p 2 (24 + 6 * i) (p 60) := fun q => c2 ((nI_ltI (a := 1) (by decide) (by omega)).mpr q)
          rw [hstep, if_pos (by omega)] at ih
          exact ih
  have H2' : ∀ i, i ≤ 3 → hb p i = 0 → G X (Rm (d + 2)) mX5_isHeap 67 [(0, .ref a), (1, .int (nI (hb p i)))] [] (sI μ f) 0 0 K := by
    intro i hi h0
    refine b_X5_isHeap_67 ?_
    have h3 := hb_0 h0 (3 - i)
    rw [show i + (3 - i) = 3 by omega] at h3
    have h9 := H2 0 (Nat.zero_le _)
    rw [show hb p (3 + 0) = 0 from h3] at h9
    rw [h0]
    exact h9
  have H1 : ∀ i, i ≤ 3 → G X (Rm (d + 2)) mX5_isHeap 31 [(0, .ref a), (1, .int (nI (hb p i))), (2, .int (nI i))] [] (sI μ f) 0 0 K := by
    refine dn 3 ?_ ?_
    · refine b_X5_isHeap_31 (hw5_r0 := hw) (h := fun _ => b_X5_isHeap_67 (H2 0 (Nat.zero_le _))) (h_2 := ?_) (hb := ?_) (hc_cellsThatAre := ?_) <;> (intro c; exact absurd (le_r _) c)
    · intro i hi ih
      have hle := hb_le p i
      refine b_X5_isHeap_31 (hw5_r0 := hw) (h := fun c => absurd c (ge_c (n := 3) hi (by decide))) (h_2 := fun _ c => H2' i (by omega) ((nI_z (by omega)).mp c)) (hb := fun _ _ => hi) (hc_cellsThatAre := fun _ c => ?_)
      rw [nI_z (by omega)] at c
      have hstep : hb p (i + 1) = if cq p 2 (6 + 6 * i) (p 60) < 2 then 1 else 0 := by
        show (if hb p i = 0 then 0 else (if cq p 2 (6 + 6 * i) 6 < 2 then 1 else 0)) = _
        rw [if_neg c, cq_at hp (by decide) hi]
      have hcl := cq_le p 2 (6 + 6 * i) (p 60)
      refine c_cells (t := 2) (k0 := 6 + 6 * i) hw hs hp (w5_q2 hw i hi) (fun j hj => hs.2.2.1 i j hi hj) (fun j hj => hp.2.2.1 i j hi hj) (by decide) ?_
      refine b_X5_isHeap_51 (h := fun c2 => b_X5_isHeap_60 ?_) (h_2 := fun c2 => b_X5_isHeap_60 ?_)
      · have c3 : 1 < cq p 2 (6 + 6 * i) (p 60) := (nI_ltI (a := 1) (by decide) (by omega)).mp c2
        rw [hstep, if_neg (by omega)] at ih
        exact ih
      · have c3 : ¬ 1 < cq p 2 (6 + 6 * i) (p 60) := fun q => c2 ((nI_ltI (a := 1) (by decide) (by omega)).mpr q)
        rw [hstep, if_pos (by omega)] at ih
        exact ih
  have T0 : hb p 0 = 0 → G X (Rm (d + 2)) mX5_isHeap 27 [(0, .ref a)] [] (sI μ f) 0 0 K := by
    intro h0
    refine b_X5_isHeap_27 (b_X5_isHeap_28 ?_)
    have := H1 0 (Nat.zero_le _)
    rw [h0] at this
    exact this
  have hb0 : hb p 0 = if cq p 1 0 6 = 0 ∧ cq p 1 6 54 = 0 then 1 else 0 := rfl
  refine c_manys hw hs hp (b_X5_isHeap_4 (hw5_r0 := hw) (h := fun c => T0 ?_) (hc_atsThatAre := fun c1 => ?_))
  · rw [hb0, if_neg]
    intro q
    rw [cq_many hp] at q
    exact c (by rw [q.1]; rfl)
  rw [nI_z (by omega)] at c1
  refine c_ats (t := 1) hw hs hp (by decide) (b_X5_isHeap_12 (hw5_r0 := hw) (h := fun c => T0 ?_) (hc_nextsThatAre := fun c2 => ?_))
  · rw [hb0, if_neg]
    intro q
    exact c (by rw [show sq p 1 6 (p 60) 3 = 0 by omega]; rfl)
  rw [nI_z (by omega)] at c2
  refine c_nexts (t := 1) hw hs hp (by decide) (b_X5_isHeap_20 (h := fun c => T0 ?_) (h_2 := fun c3 => b_X5_isHeap_28 ?_))
  · rw [hb0, if_neg]
    intro q
    exact c (by rw [show sq p 1 24 (p 60) (p 60) = 0 by omega]; rfl)
  rw [nI_z (by omega)] at c3
  have h1 : hb p 0 = 1 := by rw [hb0, if_pos ⟨by rw [cq_many hp]; exact c1, by omega⟩]
  have := H1 0 (Nat.zero_le _)
  rw [h1] at this
  exact this
theorem m_many {lo n t : Nat} (hw : WF12 μ y) (hg : Pg0 f y p) (hb : ∀ k, k < n → p (lo + k) ≤ 2) (hn : lo + n ≤ 60) (ht : t ≤ 2) (hK : K (some (.int (nI (cq p t lo n)))) (sI μ f)) : Ct X (Rm d) mX12_manyOf [.ref y, .int (nI lo), .int (nI (lo + n)), .int (nI t)] (sI μ f) K := by
  refine Ct_of rfl (Nat.le_of_ble_eq_true rfl) (b_X12_manyOf_0 ?_)
  have H : ∀ i, i ≤ n → G X (Rm d) mX12_manyOf 6 [(0, .ref y), (2, .int (nI (lo + n))), (3, .int (nI t)), (4, .int (nI (cq p t lo i))), (5, .int (nI (lo + i)))] [] (sI μ f) 0 0 K := by
    refine dn n ?_ ?_
    · refine b_X12_manyOf_6 (hw12_r0 := hw) (hK := fun _ => hK) (hb := ?_) (h := ?_) (h_2 := ?_) <;> (intro c; exact absurd (le_r _) c)
    · intro i hi ih
      have e1 : iv (sI μ f) (y + 1) (lo + i) = nI (p (lo + i)) := hg _ (by omega)
      have hm := hb i hi
      refine b_X12_manyOf_6 (hw12_r0 := hw) (hK := fun c => absurd c (ge_c (by omega) (by omega))) (hb := fun _ => by omega) (h := fun _ c => b_X12_manyOf_30 ?_) (h_2 := fun _ c => b_X12_manyOf_30 ?_)
      · rw [e1, nI_eq (by omega) (by omega)] at c
        have e : cq p t lo (i + 1) = cq p t lo i + 0 := by show cq p t lo i + (if p (lo + i) = t then 1 else 0) = _; rw [if_neg c]
        rw [e] at ih
        rw [show (0 : Int32) = nI 0 from rfl, nI_add]
        exact ih
      · rw [e1, nI_eq (by omega) (by omega)] at c
        have e : cq p t lo (i + 1) = cq p t lo i + 1 := by show cq p t lo i + (if p (lo + i) = t then 1 else 0) = _; rw [if_pos c]
        rw [e] at ih
        rw [nI_1]
        exact ih
  exact H 0 (Nat.zero_le _)
theorem okP_all {k : Nat} (hp : okP p) (h1 : 6 ≤ k) (h2 : k < 60) : p k ≤ 2 := by
  by_cases h : k < 24
  · have := hp.2.2.1 ((k - 6) / 6) ((k - 6) % 6) (by omega) (by omega)
    rw [show 6 + 6 * ((k - 6) / 6) + (k - 6) % 6 = k by omega] at this
    exact this
  · have := hp.2.2.2.1 ((k - 24) / 6) ((k - 24) % 6) (by omega) (by omega)
    rw [show 24 + 6 * ((k - 24) / 6) + (k - 24) % 6 = k by omega] at this
    exact this
theorem m_isHeap (hw : WF12 μ y) (hg : Pg0 f y p) (hp : okP p) (hK : K (some (.int (nI (hb p 9)))) (sI μ f)) : Ct X (Rm (d + 1)) mX12_isHeap [.ref y] (sI μ f) K := by
  refine Ct_of rfl (Nat.le_of_ble_eq_true rfl) (b_X12_isHeap_0 hw ?_)
  have H : ∀ i, i ≤ 9 → G X (Rm (d + 1)) mX12_isHeap 32 [(0, .ref y), (1, .int (nI (hb p i))), (2, .int (nI (6 + 6 * i)))] [] (sI μ f) 0 0 K := by
    refine dn 9 ?_ ?_
    · refine b_X12_isHeap_32 (hw12_r0 := hw) (hK := fun _ => hK) (hz := fun _ => b01 (hb_le p _)) (h := ?_) (hc_manyOf := ?_) <;> (intro c; exact absurd (le_r _) c)
    · intro i hi ih
      have hle := hb_le p i
      have hcl := cq_le p 2 (6 + 6 * i) 6
      have step : ∀ b : Nat, b = hb p (i + 1) → G X (Rm (d + 1)) mX12_isHeap 61 [(0, .ref y), (2, .int (nI (6 + 6 * i)))] [.int (nI b)] (sI μ f) 0 0 K := by
        intro b hb2
        subst hb2
        refine b_X12_isHeap_61 ?_
        rw [show nI (6 + 6 * i) + 6 = nI (6 + 6 * (i + 1)) by rw [show (6 : Int32) = nI 6 from rfl, nI_add, show 6 + 6 * i + 6 = 6 + 6 * (i + 1) by omega]]
        exact ih
      refine b_X12_isHeap_32 (hw12_r0 := hw) (hK := fun c => absurd c (ge_c (n := 60) (by omega) (by decide))) (hz := fun _ => b01 (hb_le p _)) (h := fun _ c => b_X12_isHeap_60 (step 0 ?_)) (hc_manyOf := fun _ c => ?_)
      · rw [nI_z (by omega)] at c
        show _ = (if hb p i = 0 then 0 else _)
        rw [if_pos c]
      · rw [nI_z (by omega)] at c
        rw [show nI (6 + 6 * i) + 6 = nI (6 + 6 * i + 6) by rw [show (6 : Int32) = nI 6 from rfl, nI_add]]
        have hstep : hb p (i + 1) = if cq p 2 (6 + 6 * i) 6 < 2 then 1 else 0 := by
          show (if hb p i = 0 then 0 else (if cq p 2 (6 + 6 * i) 6 < 2 then 1 else 0)) = _
          rw [if_neg c]
        refine m_many (t := 2) (lo := 6 + 6 * i) (n := 6) hw hg (fun k hk => okP_all hp (by omega) (by omega)) (by omega) (by decide) ?_
        refine b_X12_isHeap_52 (h := fun c2 => b_X12_isHeap_60 (step 0 ?_)) (h_2 := fun c2 => step 1 ?_)
        · have c3 : 2 ≤ cq p 2 (6 + 6 * i) 6 := (nI_leI (a := 2) (by decide) (by omega)).mp c2
          rw [hstep, if_neg (by omega)]
        · have c3 : ¬ 2 ≤ cq p 2 (6 + 6 * i) 6 := fun q => c2 ((nI_leI (a := 2) (by decide) (by omega)).mpr q)
          rw [hstep, if_pos (by omega)]
  have hb0 : hb p 0 = if cq p 1 0 6 = 0 ∧ cq p 1 6 54 = 0 then 1 else 0 := rfl
  have T0 : ∀ b : Nat, b = hb p 0 → G X (Rm (d + 1)) mX12_isHeap 28 [(0, .ref y)] [.int (nI b)] (sI μ f) 0 0 K := by
    intro b hb2
    subst hb2
    exact b_X12_isHeap_28 (H 0 (Nat.zero_le _))
  have l1 := cq_le p 1 0 6
  have l2 := cq_le p 1 6 54
  refine m_many (t := 1) (lo := 0) (n := 6) hw hg (fun k hk => by rw [Nat.zero_add]; have := hp.2.1 k hk; omega) (by omega) (by decide) (b_X12_isHeap_8 (hw12_r0 := hw) (h := fun c => b_X12_isHeap_27 (T0 0 ?_)) (hc_manyOf := fun c1 => ?_))
  · rw [hb0, if_neg]
    intro q
    exact c (by rw [q.1]; rfl)
  rw [nI_z (by omega)] at c1
  refine m_many (t := 1) (lo := 6) (n := 54) hw hg (fun k hk => okP_all hp (by omega) (by omega)) (by omega) (by decide) (b_X12_isHeap_20 (h := fun c => b_X12_isHeap_27 (T0 0 ?_)) (h_2 := fun c2 => T0 1 ?_))
  · rw [hb0, if_neg]
    intro q
    exact c (by rw [q.2]; rfl)
  rw [nI_z (by omega)] at c2
  rw [hb0, if_pos ⟨c1, c2⟩]
end P24
