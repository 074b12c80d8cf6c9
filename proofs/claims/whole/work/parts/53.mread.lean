def okJ (σ : aS) (k L fr j : Nat) : Prop := σ 7 k < 3 ∧ σ 7 k = L ∧ fr + j < σ 8 k
def cdJ (σ : aS) (k L : Nat) : Nat := if σ 7 k < 3 then (if σ 7 k = L then 2 else 3) else 1
theorem cdJ_r (σ : aS) (k L : Nat) : cdJ σ k L ≠ 0 ∧ cdJ σ k L ≤ 3 := by
  unfold cdJ
  repeat' split
  all_goals omega
theorem fdW_ok {σ : aS} {k L fr i : Nat} : fdW σ k L (fr + 3 * i) 3 = 0 ↔ okJ σ k L fr (3 * i + 2) := by
  unfold fdW okJ
  by_cases q : σ 7 k < 3
  · by_cases q2 : σ 7 k = L
    · rw [if_pos q, if_pos q2]
      by_cases q3 : fr + 3 * i + 3 ≤ σ 8 k
      · rw [if_pos q3]; exact ⟨fun _ => ⟨q, q2, by omega⟩, fun _ => rfl⟩
      · rw [if_neg q3]; exact ⟨fun z => by omega, fun z => by omega⟩
    · rw [if_pos q, if_neg q2]; exact ⟨fun z => by omega, fun z => absurd z.2.1 q2⟩
  · rw [if_neg q]; exact ⟨fun z => by omega, fun z => absurd z.1 q⟩
theorem fdW_cd {σ : aS} {k L fr i : Nat} (h : ¬ okJ σ k L fr (3 * i + 2)) : fdW σ k L (fr + 3 * i) 3 = cdJ σ k L := by
  unfold fdW cdJ
  unfold okJ at h
  by_cases q : σ 7 k < 3
  · by_cases q2 : σ 7 k = L
    · rw [if_pos q, if_pos q2, if_pos q, if_pos q2, if_neg (fun z => h ⟨q, q2, by omega⟩)]
    · rw [if_pos q, if_neg q2, if_pos q, if_neg q2]
  · rw [if_neg q, if_neg q]
theorem okJ_le {σ : aS} {k L fr j j' : Nat} (h : okJ σ k L fr j) (hj : j' ≤ j) : okJ σ k L fr j' := ⟨h.1, h.2.1, by have := h.2.2; omega⟩
theorem rem3 {j : Nat} (h : j < 2 ^ 31) : (nI j - nI j / 3 * 3 = (2 : Int32)) ↔ j % 3 = 2 := by
  rw [show (3 : Int32) = nI 3 from rfl, pk_rem h (by decide) (by decide)]
  exact nI_eq (b := 2) (by omega) (by decide)
theorem lsum {fr j : Nat} (hf : fr < 2 ^ 32) (hj : j < 40) : ((nI fr).toInt64 + (nI j).toInt64).toInt = (nI fr).toInt + j := by
  rw [Int64.toInt_add, i64, i64, nI_toInt (n := j) (by omega), bmodP, nI_u hf]
  have p64 : ((2 ^ 64 : Nat) : Int) = 18446744073709551616 := by decide
  have p63 : (((2 ^ 64 + 1) / 2 : Nat) : Int) = 9223372036854775808 := by decide
  rw [p64, p63]
  split <;> split <;> omega
theorem e_inJ {μ : mM} {fr j n : Nat} {z : Int32} (hf : fr < 2 ^ 32) (hfj : fr < 2 ^ 31 ∨ j = 0) (hj : j < 40) (hz : z = nI n) (hn : n ≤ 40) : e_X12_in μ ((nI fr).toInt64 + (nI j).toInt64) 0 ((z - 1).toInt64) = 0 ↔ ¬ fr + j < n := by
  rw [e_in0, lsum hf hj, i64, nI_u hf, hz]
  have e0 : (0 : Int64).toInt = 0 := by decide
  have e2 : (nI n - 1).toInt = (n : Int) - 1 := pk_sub_toInt (b := 1) (by omega) (by decide)
  rw [e0, e2]
  split <;> omega
theorem OKs.pg {σ : aS} {p : Nat → Nat} (h : OKs σ) (hp : okP p) : OKs (us σ 0 p) := by
  obtain ⟨_, h2, h3, h4, h5, h6⟩ := h
  exact ⟨hp, fun k hk => by rw [us_n (by omega)]; exact h2 k hk, h3, h4, h5, h6⟩
section P53
variable {X : cX} {d : Nat} {μ : mM} {K : Option Value → mM → Prop} {f g : Nat → Nat → Int32} {y k L fr n : Nat} {σ : aS}
theorem m_rdE {p : Nat → Nat} {v : Int32} {e : Nat} (hw : WF12 μ y) (hM : MI f y σ) (h1 : MF2 f g y) (h2 : Pg0 g y p) (hK : ∀ g', Fr f g' y 17 → MI g' y (N_rd σ (p, v, e)) → K (some (.int v)) (sI μ g')) : G X (Rm (d + 3)) mX12_read 210 [(0, .ref y), (5, .int (nI e)), (6, .int v)] [] (sI μ g) 0 0 K := by
  refine b_X12_read_210 hw ?_
  rw [wi_sI]
  have r := hM.np h1 h2
  have r2 := MI.flt (n := e) r.2
  exact hK (u2 g y 28 (nI e)) (fun z hz j => by rw [u2_x (by omega)]; exact r.1 z hz j) r2
/-- a place that isn't there -/
theorem m_rdX {j : Nat} {v : Int32} (hw : WF12 μ y) (hM : MI g y σ) (hO : OKs σ) (hk : k < 4) (hL : L < 3) (hfr : fr < 2 ^ 32) (hfj : fr < 2 ^ 31 ∨ j = 0) (hn : n ≤ 13) (hj : j < 3 * n) (ho : ¬ okJ σ k L fr j) (h : G X (Rm (d + 3)) mX12_read 210 [(0, .ref y), (5, .int (nI (cdJ σ k L))), (6, .int v)] [] (sI μ g) 0 0 K) : G X (Rm (d + 3)) mX12_read 56 [(0, .ref y), (1, .int (nI k)), (2, .int (nI L)), (3, .int (nI fr)), (4, .int (nI n)), (5, .int (nI 0)), (6, .int v), (7, .int (nI j))] [] (sI μ g) 0 0 K := by
  have o := hO.2.2.2.2.1 k hk
  have hl := hM.2.2.2.2.2.1 k hk
  have e3 : (3 : Int32) * nI n = nI (3 * n) := pk_mul 3 n
  have nl : ¬ (3 : Int32) * nI n ≤ nI j := by rw [e3]; exact ge_c hj (by omega)
  have cr := cdJ_r σ k L
  have cz : ¬ nI (cdJ σ k L) = 0 := fun q => cr.1 ((nI_z (by omega)).mp q)
  have A : ∀ {g8 : Int64} {v0 : Int32}, v0 = nI (cdJ σ k L) → G X (Rm (d + 3)) mX12_read 130 [(0, .ref y), (1, .int (nI k)), (2, .int (nI L)), (3, .int (nI fr)), (4, .int (nI n)), (6, .int v), (7, .int (nI j)), (8, .long g8)] [.int v0] (sI μ g) 0 0 K := fun {g8 v0} hv => by
    subst hv
    refine b_X12_read_130 (j0 := 0) (j1 := 0) (j2 := 0) (h := fun _ => b_X12_read_204 ?_) (h_2 := fun q => absurd q cz) (hw12_r0 := hw) (hi_j0 := fun q => absurd q cz) (hb := fun q => absurd q cz) (hi_j1 := fun q => absurd q cz) (hb_2 := fun q => absurd q cz) (hi_j2 := fun q => absurd q cz) (hb_3 := fun q => absurd q cz) (hc_does := fun q => absurd q cz)
    exact b_X12_read_56 (h := fun _ => h) (h_2 := fun _ _ => h) (hw12_r0 := hw) (hb := fun _ q => absurd q cz) (hb_2 := fun _ q => absurd q cz) (hb_3 := fun _ q => absurd q cz) (h_3 := fun _ q => absurd q cz) (h_4 := fun _ q => absurd q cz) (h_5 := fun _ q => absurd q cz) (h_6 := fun _ q => absurd q cz)
  by_cases q : σ 7 k < 3
  · have el : iv (sI μ g) (y + 14) k = nI (σ 7 k) := by rw [iv_sI, hl.1, if_pos q]
    have nn : ¬ iv (sI μ g) (y + 14) k = (-4 : Int32) := fun c => by
      rw [el] at c
      have := (nI_eqU (b := 2 ^ 32 - 4) (by omega) (by decide)).mp (c.trans (by decide))
      omega
    have en : iv (sI μ g) (y + 15) k = nI (σ 8 k) := hl.2 q
    have ll : (iv (sI μ g) (y + 14) k = nI L) ↔ σ 7 k = L := by rw [el]; exact nI_eq (by omega) (by omega)
    have ei := e_inJ (μ := sI μ g) hfr hfj (by omega) en o.2
    refine b_X12_read_56 (h := fun q => absurd q nl) (h_2 := fun _ q => absurd rfl q) (hw12_r0 := hw) (hb := fun _ _ => hk) (hb_2 := fun _ _ _ => hk) (hb_3 := fun _ _ _ _ => hk) (h_3 := fun _ _ _ q2 q3 => ?_) (h_4 := fun _ _ _ q2 q3 => A ?_) (h_5 := fun _ _ _ q2 => A ?_) (h_6 := fun _ _ c => absurd c nn)
    · exact absurd ⟨q, ll.mp q2, Decidable.byContradiction fun z => q3 (ei.mpr z)⟩ ho
    · unfold cdJ; rw [if_pos q, if_pos (ll.mp q2)]; rfl
    · unfold cdJ; rw [if_pos q, if_neg (fun z => q2 (ll.mpr z))]; rfl
  · have el : iv (sI μ g) (y + 14) k = -4 := by rw [iv_sI, hl.1, if_neg q]
    refine b_X12_read_56 (h := fun q => absurd q nl) (h_2 := fun _ q => absurd rfl q) (hw12_r0 := hw) (hb := fun _ _ => hk) (hb_2 := fun _ _ _ => hk) (hb_3 := fun _ _ _ _ => hk) (h_3 := fun _ _ c => absurd el c) (h_4 := fun _ _ c => absurd el c) (h_5 := fun _ _ c => absurd el c) (h_6 := fun _ _ _ => A ?_)
    unfold cdJ; rw [if_neg q]; rfl
/-- a place that is there -/
theorem m_rdO {j : Nat} {v : Int32} (hw : WF12 μ y) (hM : MI g y σ) (hO : OKs σ) (hk : k < 4) (hL : L < 3) (hfr : fr < 2 ^ 32) (hfj : fr < 2 ^ 31 ∨ j = 0) (hn : n ≤ 13) (hj : j < 3 * n) (ho : okJ σ k L fr j) (h : G X (Rm (d + 3)) mX12_read 130 [(0, .ref y), (1, .int (nI k)), (2, .int (nI L)), (3, .int (nI fr)), (4, .int (nI n)), (6, .int v), (7, .int (nI j)), (8, .long ((nI fr).toInt64 + (nI j).toInt64))] [.int (nI 0)] (sI μ g) 0 0 K) : G X (Rm (d + 3)) mX12_read 56 [(0, .ref y), (1, .int (nI k)), (2, .int (nI L)), (3, .int (nI fr)), (4, .int (nI n)), (5, .int (nI 0)), (6, .int v), (7, .int (nI j))] [] (sI μ g) 0 0 K := by
  have o := hO.2.2.2.2.1 k hk
  have hl := hM.2.2.2.2.2.1 k hk
  have e3 : (3 : Int32) * nI n = nI (3 * n) := pk_mul 3 n
  have nl : ¬ (3 : Int32) * nI n ≤ nI j := by rw [e3]; exact ge_c hj (by omega)
  have el : iv (sI μ g) (y + 14) k = nI (σ 7 k) := by rw [iv_sI, hl.1, if_pos ho.1]
  have nn : ¬ iv (sI μ g) (y + 14) k = (-4 : Int32) := fun c => by
    rw [el] at c
    have := (nI_eqU (b := 2 ^ 32 - 4) (by omega) (by decide)).mp (c.trans (by decide))
    omega
  have en : iv (sI μ g) (y + 15) k = nI (σ 8 k) := hl.2 ho.1
  have ei := e_inJ (μ := sI μ g) hfr hfj (by omega) en o.2
  refine b_X12_read_56 (h := fun q => absurd q nl) (h_2 := fun _ q => absurd rfl q) (hw12_r0 := hw) (hb := fun _ _ => hk) (hb_2 := fun _ _ _ => hk) (hb_3 := fun _ _ _ _ => hk) (h_3 := fun _ _ _ _ _ => h) (h_4 := fun _ _ _ _ q3 => absurd ho.2.2 (ei.mp q3)) (h_5 := fun _ _ _ q2 => absurd (by rw [el, ho.2.1]) q2) (h_6 := fun _ _ c => absurd c nn)
/-- one that isn't the third -/
theorem m_rd1 {j : Nat} {v : Int32} (hw : WF12 μ y) (hM : MI g y σ) (hO : OKs σ) (hk : k < 4) (hL : L < 3) (hfr : fr < 2 ^ 32) (hfj : fr < 2 ^ 31 ∨ j = 0) (hn : n ≤ 13) (hj : j < 3 * n) (ho : okJ σ k L fr j) (h3 : j % 3 ≠ 2) (h : G X (Rm (d + 3)) mX12_read 56 [(0, .ref y), (1, .int (nI k)), (2, .int (nI L)), (3, .int (nI fr)), (4, .int (nI n)), (5, .int (nI 0)), (6, .int v), (7, .int (nI (j + 1)))] [] (sI μ g) 0 0 K) : G X (Rm (d + 3)) mX12_read 56 [(0, .ref y), (1, .int (nI k)), (2, .int (nI L)), (3, .int (nI fr)), (4, .int (nI n)), (5, .int (nI 0)), (6, .int v), (7, .int (nI j))] [] (sI μ g) 0 0 K := by
  have r3 : ¬ nI j - nI j / 3 * 3 = (2 : Int32) := fun q => h3 ((rem3 (by omega)).mp q)
  exact m_rdO hw hM hO hk hL hfr hfj hn hj ho (b_X12_read_130 (j0 := 0) (j1 := 0) (j2 := 0) (h := fun q => absurd rfl q) (h_2 := fun _ _ => b_X12_read_204 h) (hw12_r0 := hw) (hi_j0 := fun _ q => absurd q r3) (hb := fun _ q => absurd q r3) (hi_j1 := fun _ q => absurd q r3) (hb_2 := fun _ q => absurd q r3) (hi_j2 := fun _ q => absurd q r3) (hb_3 := fun _ q => absurd q r3) (hc_does := fun _ q => absurd q r3))
theorem m_readL (hw : WF12 μ y) (hM : MI f y σ) (hO : OKs σ) (hk : k < 4) (hL : L < 3) (hfr : fr < 2 ^ 32) (hn : n ≤ 13) : ∀ (m i : Nat), i + m = n → (fr < 2 ^ 31 ∨ i = 0) → ∀ (p : Nat → Nat) (g : Nat → Nat → Int32), MF2 f g y → Pg0 g y p → okP p → Pg g y 244 (σ 0) → (∀ g', Fr f g' y 17 → MI g' y (N_rd σ (rdL σ k L fr m i p)) → K (some (.int (rdL σ k L fr m i p).2.1)) (sI μ g')) → G X (Rm (d + 3)) mX12_read 56 [(0, .ref y), (1, .int (nI k)), (2, .int (nI L)), (3, .int (nI fr)), (4, .int (nI n)), (5, .int (nI 0)), (6, .int (nI i)), (7, .int (nI (3 * i)))] [] (sI μ g) 0 0 K := by
  have o := hO.2.2.2.2.1 k hk
  intro m
  induction m with
  | zero =>
    intro i hi hfi p g h1 h2 h3 h4 hK
    have e : i = n := by omega
    subst e
    have e3 : (3 : Int32) * nI i = nI (3 * i) := pk_mul 3 i
    have nl : (3 : Int32) * nI i ≤ nI (3 * i) := by rw [e3]; exact le_r _
    exact b_X12_read_56 (h := fun _ => m_rdE hw hM h1 h2 hK) (h_2 := fun q => absurd nl q) (hw12_r0 := hw) (hb := fun q => absurd nl q) (hb_2 := fun q => absurd nl q) (hb_3 := fun q => absurd nl q) (h_3 := fun q => absurd nl q) (h_4 := fun q => absurd nl q) (h_5 := fun q => absurd nl q) (h_6 := fun q => absurd nl q)
  | succ m ih =>
    intro i hi hfi p g h1 h2 h3 h4 hK
    rw [rdL_s] at hK
    have hMg : MI g y (us σ 0 p) := (hM.np h1 h2).2
    have hOg : OKs (us σ 0 p) := hO.pg h3
    by_cases ok : okJ σ k L fr (3 * i + 2)
    · rw [if_pos (fdW_ok.mpr ok)] at hK
      have b := ok.2.2
      have o8 := o.2
      refine m_rd1 (j := 3 * i) hw hMg hOg hk hL hfr (by omega) hn (by omega) (okJ_le ok (by omega)) (by omega) ?_
      refine m_rd1 (j := 3 * i + 1) hw hMg hOg hk hL hfr (by omega) hn (by omega) (okJ_le ok (by omega)) (by omega) ?_
      refine m_rdO (j := 3 * i + 1 + 1) hw hMg hOg hk hL hfr (by omega) hn (by omega) ok ?_
      have r3 : nI (3 * i + 1 + 1) - nI (3 * i + 1 + 1) / 3 * 3 = (2 : Int32) := (rem3 (by omega)).mpr (by omega)
      have e8 : (40 : Int32) * nI k + ((nI fr).toInt64 + (nI (3 * i + 1 + 1)).toInt64).toInt32 = nI (40 * k + (fr + 3 * i + 2)) := by
        rw [nI_l (by omega), nI_l (by omega), lN_add, lN_i, show (40 : Int32) = nI 40 from rfl, pk_mul, nI_add, show fr + (3 * i + 1 + 1) = fr + 3 * i + 2 by omega]
      have lt : ∀ j, j < 160 → σ 9 j < 2 ^ 32 := fun j hj => hO.2.2.2.2.2 _ (by omega)
      have ce : ∀ j, j < 160 → iv (sI μ g) (y + 16) j = nI (σ 9 j) := fun j hj => hMg.2.2.2.2.2.2.1 j hj
      refine b_X12_read_130 (j0 := 40 * k + (fr + 3 * i)) (j1 := 40 * k + (fr + 3 * i + 1)) (j2 := 40 * k + (fr + 3 * i + 2)) (h := fun q => absurd rfl q) (h_2 := fun _ q => absurd r3 q) (hw12_r0 := hw) (hi_j0 := fun _ _ => ?_) (hb := fun _ _ => by omega) (hi_j1 := fun _ _ => ?_) (hb_2 := fun _ _ => by omega) (hi_j2 := fun _ _ => e8) (hb_3 := fun _ _ => by omega) (hc_does := fun _ _ => ?_)
      · rw [e8]; exact pk_sub (b := 2) (by omega)
      · rw [e8]; exact pk_sub (b := 1) (by omega)
      · rw [ce _ (by omega), ce _ (by omega), ce _ (by omega)]
        refine m_does (p := p) hw h2 h3 (lt _ (by omega)) (lt _ (by omega)) (lt _ (by omega)) (fun g1 r1 r2 => ?_)
        have mf : MF2 f g1 y := h1.tr r1.to2
        have h4b : Pg g1 y 244 (σ 0) := fun j hj => by rw [r1.2 _ (by omega)]; exact h4 j hj
        refine b_X12_read_184 (h := fun c => b_X12_read_204 ?_) (hw12_r0 := hw) (hc_copies := fun c => ?_)
        · rw [if_neg (Int32.not_lt.mpr c)] at hK
          exact ih (i + 1) (by omega) (by omega) _ g1 mf r2 (okP_deed h3) h4b hK
        · rw [if_pos (Int32.not_le.mp c)] at hK
          refine m_copies (P := 244) (Q := 0) hw h4b (by decide) (by decide) (by decide) (fun g2 s1 s2 s3 => b_X12_read_195 ?_)
          have mf2 : MF2 f g2 y := mf.tr ⟨fun z _ a _ _ j => s1 z a j, fun k h1 _ => s2 k (by omega), fun k _ => s1 _ (by omega) k⟩
          have r := hM.np mf2 (Pg_0.mp s3)
          have e1 : N_rd σ (σ 0, -20 - nI i, σ 5 3) = us σ 0 (σ 0) := by
            unfold N_rd
            show us (us σ 0 (σ 0)) 5 (upd1 (σ 5) 3 (σ 5 3)) = _
            rw [upd1_id, us_0, us_id]
          rw [e1] at hK
          exact hK g2 r.1 r.2
    · have cr := cdJ_r σ k L
      rw [fdW_cd ok, if_neg cr.1] at hK
      have E := m_rdE (X := X) (d := d) (v := nI i) (e := cdJ σ k L) hw hM h1 h2 hK
      by_cases ok0 : okJ σ k L fr (3 * i)
      · have b := ok0.2.2
        have o8 := o.2
        refine m_rd1 (j := 3 * i) hw hMg hOg hk hL hfr (by omega) hn (by omega) ok0 (by omega) ?_
        by_cases ok1 : okJ σ k L fr (3 * i + 1)
        · refine m_rd1 (j := 3 * i + 1) hw hMg hOg hk hL hfr (by omega) hn (by omega) ok1 (by omega) ?_
          exact m_rdX (j := 3 * i + 1 + 1) hw hMg hOg hk hL hfr (by omega) hn (by omega) ok E
        · exact m_rdX (j := 3 * i + 1) hw hMg hOg hk hL hfr (by omega) hn (by omega) ok1 E
      · exact m_rdX (j := 3 * i) hw hMg hOg hk hL hfr (by omega) hn (by omega) ok0 E
theorem M_read (hw : WF12 μ y) (hM : MI f y σ) (hO : OKs σ) (hk : k < 2 ^ 32) (hL : L < 2 ^ 32) (hfr : fr < 2 ^ 32) (hn : n < 2 ^ 32) (hK : ∀ f', Fr f f' y 17 → MI f' y (N_read σ k L fr n) → K (some (.int (R_read σ k L fr n))) (sI μ f')) : Ct X (Rm (d + 3)) mX12_read [.ref y, .int (nI k), .int (nI L), .int (nI fr), .int (nI n)] (sI μ f) K := by
  have ek := e_inN (μ := sI μ f) (n := 3) (c := 3) hk (by decide) (by decide)
  have eL := e_inN (μ := sI μ f) (n := 2) (c := 2) hL (by decide) (by decide)
  have en := e_inN (μ := sI μ f) (n := 13) (c := 13) hn (by decide) (by decide)
  have BAD : ¬ (k < 4 ∧ L < 3 ∧ n ≤ 13) → K (some (.int (-1))) (sI μ f) := fun q => by
    have kk := hK f (Fr.rf _ _ _)
    unfold N_read R_read at kk
    rw [if_neg q, if_neg q] at kk
    exact kk hM
  refine Ct_of rfl (Nat.le_of_ble_eq_true rfl) (b_X12_read_0 (hK := fun c => BAD (fun z => by have := ek.mp c; omega)) (hK_2 := fun _ c => BAD (fun z => by have := eL.mp c; omega)) (hw12_r0 := hw) (hc_copies := fun c1 c2 c3 => ?_) (hK_3 := fun _ _ c => BAD (fun z => (en.mp c) z.2.2)))
  have z1 : k < 4 := Decidable.byContradiction fun z => c1 (ek.mpr (by omega))
  have z2 : L < 3 := Decidable.byContradiction fun z => c2 (eL.mpr (by omega))
  have z3 : n ≤ 13 := Decidable.byContradiction fun z => c3 (en.mpr z)
  refine m_copies (P := 0) (Q := 244) hw (Pg_0.mpr hM.1) (by decide) (by decide) (by decide) (fun g r1 r2 r3 => b_X12_read_47 ?_)
  have mf : MF2 f g y := ⟨fun z _ a _ _ j => r1 z a j, fun k h1 _ => r2 k (by omega), fun k _ => r1 _ (by omega) k⟩
  refine m_readL hw hM hO z1 z2 hfr z3 n 0 (by omega) (Or.inr rfl) (σ 0) g mf (hM.1.fr (fun k _ => r2 k (by omega))) hO.1 r3 (fun g' a b => ?_)
  have kk := hK g' a
  unfold N_read R_read at kk
  rw [if_pos ⟨z1, z2, z3⟩, if_pos ⟨z1, z2, z3⟩] at kk
  exact kk b
end P53
