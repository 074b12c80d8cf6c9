theorem ixdiv {k : Nat} (hk : k < 2 ^ 31) : (nI k) / 6 = nI (k / 6) := by
  rw [show (6 : Int32) = nI 6 from rfl, pk_div hk (by decide) (by decide)]
theorem ixrem {k : Nat} (hk : k < 2 ^ 31) : (nI k) - (nI k) / 6 * 6 = nI (k % 6) := by
  rw [show (6 : Int32) = nI 6 from rfl, pk_rem hk (by decide) (by decide)]
theorem lt0 {i : Nat} (hi : i < 2 ^ 32) : nI i < 0 ↔ 2 ^ 31 ≤ i := by
  constructor
  · intro h
    by_cases q : i < 2 ^ 31
    · exact absurd h (nI_pos q)
    · omega
  · intro h
    exact nI_neg h hi
theorem nI_u {i : Nat} (hi : i < 2 ^ 32) : (nI i).toInt = if i < 2 ^ 31 then (i : Int) else (i : Int) - 2 ^ 32 := by
  show (BitVec.ofNat 32 i).toInt = _
  rw [BitVec.toInt_eq_toNat_cond, BitVec.toNat_ofNat, Nat.mod_eq_of_lt hi]
  split <;> split <;> omega
theorem nI_eqU {a b : Nat} (ha : a < 2 ^ 32) (hb : b < 2 ^ 32) : nI a = nI b ↔ a = b := by
  constructor
  · intro h
    have e := congrArg Int32.toInt h
    rw [nI_u ha, nI_u hb] at e
    split at e <;> split at e <;> omega
  · intro h; rw [h]
theorem nI_leU {a b : Nat} (ha : a < 2 ^ 31) (hb : b < 2 ^ 32) (hb0 : ¬ 2 ^ 31 ≤ b) : nI a ≤ nI b ↔ a ≤ b := nI_leI ha (by omega)
/-- the reference's bounds: from 0 to n -/
theorem e_inN {μ : mM} {i n : Nat} {c : Int64} (hi : i < 2 ^ 32) (hc : c.toInt = n) (hn : n < 2 ^ 31) : e_X12_in μ (nI i).toInt64 0 c = 0 ↔ ¬ i ≤ n := by
  rw [e_in0, i64, hc, nI_u hi]
  have e0 : (0 : Int64).toInt = 0 := by decide
  rw [e0]
  split <;> omega
theorem c_isV {μ : mM} {i : Nat} (hi : i < 2 ^ 32) : e_X11_isVariable μ (nI i) = 0 ↔ ¬ i < 3 := by
  unfold e_X11_isVariable
  have e2 : (1 : Int32) ≠ 0 := by decide
  by_cases h1 : nI i < 0
  · rw [if_pos h1]
    rw [lt0 hi] at h1
    simp; omega
  · rw [if_neg h1]
    rw [lt0 hi] at h1
    by_cases h2 : (3 : Int32) ≤ nI i
    · rw [if_pos h2]
      have h3 : 3 ≤ i := (nI_leI (a := 3) (by decide) (by omega)).mp h2
      simp; omega
    · rw [if_neg h2]
      have h3 : ¬ 3 ≤ i := fun q => h2 ((nI_leI (a := 3) (by decide) (by omega)).mpr q)
      simp [e2]; omega
theorem m_isV {μ : mM} {i : Nat} (hi : i < 2 ^ 32) : e_X12_isVariable μ (nI i) = 0 ↔ ¬ i < 3 := by
  unfold e_X12_isVariable
  rw [e_inN (n := 2) hi (by decide) (by decide)]
  omega
def okD (k v w : Nat) : Bool := decide (k < 6) && (decide (v < 3) && (!(decide (k = 1 ∨ k = 2 ∨ k = 4)) || decide (w < 3)))
theorem okD_iff {k v w : Nat} : okD k v w = true ↔ k < 6 ∧ v < 3 ∧ ((k = 1 ∨ k = 2 ∨ k = 4) → w < 3) := by
  unfold okD
  rw [Bool.and_eq_true, Bool.and_eq_true, Bool.or_eq_true, decide_eq_true_eq, decide_eq_true_eq, decide_eq_true_eq, Bool.not_eq_true', decide_eq_false_iff_not]
  constructor
  · rintro ⟨h1, h2, h3⟩
    exact ⟨h1, h2, fun q => h3.elim (fun r => absurd q r) id⟩
  · rintro ⟨h1, h2, h3⟩
    refine ⟨h1, h2, ?_⟩
    by_cases q : k = 1 ∨ k = 2 ∨ k = 4
    · exact Or.inr (h3 q)
    · exact Or.inl q
/-- a deed, with any numbers: its answer, and the page behind it -/
def deedA (p : Nat → Nat) (k v w : Nat) : Int32 := if okD k v w = true then (if k = 5 ∧ p 60 = 6 then -3 else nI (dAn p k v w)) else -1
def deedP (p : Nat → Nat) (k v w : Nat) : Nat → Nat := if okD k v w = true then (if k = 5 ∧ p 60 = 6 then p else ddN p k v w) else p
theorem okP_deed {p : Nat → Nat} {k v w : Nat} (hp : okP p) : okP (deedP p k v w) := by
  unfold deedP
  split
  · rename_i h
    have h2 := okD_iff.mp h
    split
    · exact hp
    · rename_i h3
      exact okP_ddN hp h2.1 h2.2.1 h2.2.2 (fun e => by have := hp.1; omega)
  · exact hp
section P28
variable {X : cX} {d : Nat} {μ : mM} {K : Option Value → mM → Prop} {f : Nat → Nat → Int32} {a b y v w : Nat} {p : Nat → Nat}
theorem m_leads {on : Nat} (hw : WF12 μ y) (hg : Pg0 f y p) (hp : okP p) (hv : v < 3) (hw3 : w < 3) (hK : ∀ f', MFr f f' y → Pg0 f' y (if on = 0 then dd3 p v else dd4 p v w) → K none (sI μ f')) (hon : on ≤ 1) : Ct X (Rm (d + 1)) mX12_leads [.ref y, .int (nI v), .int (nI w), .int (nI on)] (sI μ f) K := by
  refine Ct_of rfl (Nat.le_of_ble_eq_true rfl) (b_X12_leads_0 ?_)
  have H : ∀ i, i ≤ 36 → ∀ g, MFr f g y → Pg0 g y (fun k => if 24 ≤ k ∧ k < 24 + i then (if on = 0 then dd3 p v else dd4 p v w) k else p k) → G X (Rm (d + 1)) mX12_leads 3 [(0, .ref y), (1, .int (nI v)), (2, .int (nI w)), (3, .int (nI on)), (4, .int (nI i))] [] (sI μ g) 0 0 K := by
    refine dn 36 ?_ ?_
    · intro g h1 h2
      refine b_X12_leads_3 (j0 := 0) (j1 := 0) (hw12_r0 := hw) (hK := fun _ => hK g h1 (fun k hk => ?_)) (hb := ?_) (hi_j0 := ?_) (hs := ?_) (h := ?_) (hi_j0_2 := ?_) (hs_2 := ?_) (hi_j1 := ?_) (hs_3 := ?_) (h_2 := ?_)
      · rw [h2 k hk]
        dsimp only
        by_cases hq : 24 ≤ k ∧ k < 24 + 36
        · rw [if_pos hq]
        · rw [if_neg hq]
          split
          · unfold dd3; rw [if_neg (by omega)]
          · unfold dd4; rw [if_neg (by omega)]
      all_goals (intro c; exact absurd (le_r _) c)
    · intro i hi ih g h1 h2
      have e1 : e_X12_atOf (sI μ g) y v (i / 6) = nI (p (6 + 6 * v + i / 6)) := by
        have := h2 (6 + 6 * v + i / 6) (by omega)
        dsimp only at this
        rw [if_neg (by omega)] at this
        exact this
      have e2 : e_X12_atOf (sI μ g) y w (i % 6) = nI (p (6 + 6 * w + i % 6)) := by
        have := h2 (6 + 6 * w + i % 6) (by omega)
        dsimp only at this
        rw [if_neg (by omega)] at this
        exact this
      have e3 : iv (sI μ g) (y + 1) (24 + i) = nI (p (24 + i)) := by
        have := h2 (24 + i) (by omega)
        dsimp only at this
        rw [if_neg (by omega)] at this
        exact this
      have a1 := hp.2.2.1 v (i / 6) hv (by omega)
      have a2 := hp.2.2.1 w (i % 6) hw3 (by omega)
      have a3 := okP_all hp (k := 24 + i) (by omega) (by omega)
      have step : ∀ m : Nat, m = (if on = 0 then dd3 p v else dd4 p v w) (24 + i) → G X (Rm (d + 1)) mX12_leads 83 [(0, .ref y), (1, .int (nI v)), (2, .int (nI w)), (3, .int (nI on)), (4, .int (nI i))] [.int (nI m), .int ((24 : Int32) + (nI i)), .ref (y + 1)] (sI μ g) 0 0 K := by
        intro m hm
        subst hm
        refine b_X12_leads_83 (n0 := 366) (j0 := 24 + i) (hk_q0 := w12_k0 hw) (hi_j0 := by rw [show (24 : Int32) = nI 24 from rfl, nI_add]) (hb := by omega) (h := ?_)
        rw [wi_sI]
        refine ih _ (h1.up (by omega)) (h2.up ?_ (fun k hk hne => ?_))
        · rw [if_pos (by omega)]
        · by_cases hq : 24 ≤ k ∧ k < 24 + i
          · rw [if_pos hq, if_pos (by omega)]
          · rw [if_neg hq, if_neg (by omega)]
      refine b_X12_leads_3 (j0 := i / 6) (j1 := i % 6) (hw12_r0 := hw) (hK := fun c => absurd c (ge_c (n := 36) hi (by decide))) (hb := fun _ => by omega) (hi_j0 := fun _ => ixdiv (by omega)) (hs := fun _ => by omega) (h := fun _ c => ?_) (hi_j0_2 := fun _ _ => ixdiv (by omega)) (hs_2 := fun _ _ => by omega) (hi_j1 := fun _ _ => ixrem (by omega)) (hs_3 := fun _ _ => by omega) (h_2 := fun _ c => ?_)
      · rw [e1, e3, sub2 a1, andI _ (by omega) (by omega)]
        refine step _ ?_
        rw [if_pos ((nI_z (by omega)).mp c)]
        unfold dd3
        rw [if_pos (by omega), show (24 + i - 24) / 6 = i / 6 by omega]
      · rw [e1, e2, e3, sub2 a1, andI _ (by omega) (by omega), andI _ (by omega) (by omega), orI _ (by omega) (by omega)]
        refine step _ ?_
        rw [if_neg (fun q => c ((nI_z (by omega)).mpr q))]
        unfold dd4
        rw [if_pos (by omega), show (24 + i - 24) / 6 = i / 6 by omega, show (24 + i - 24) % 6 = i % 6 by omega]
  exact H 0 (Nat.zero_le _) f (MFr.rf _ _) (fun k hk => by dsimp only; rw [if_neg (by omega)]; exact hg k hk)
/-- a deed with numbers as they must be -/
theorem m_doesN {k : Nat} (hw : WF12 μ y) (hg : Pg0 f y p) (hp : okP p) (hk : k < 6) (hv : v < 3) (hwv : (k = 1 ∨ k = 2 ∨ k = 4) → w < 3) (hf : k = 5 → p 60 < 6) (hK : ∀ f', MFr f f' y → Pg0 f' y (ddN p k v w) → K (some (.int (nI (dAn p k v w)))) (sI μ f')) : G X (Rm (d + 2)) mX12_does 72 [(0, .ref y), (1, .int (nI k)), (2, .int (nI v)), (3, .int (nI w))] [] (sI μ f) 0 0 K := by
  have T : ∀ r : Nat, r = dAn p k v w → G X (Rm (d + 2)) mX12_does 104 [(0, .ref y), (1, .int (nI k)), (2, .int (nI v)), (3, .int (nI w))] [.int (nI r)] (sI μ f) 0 0 K := by
    intro r hr
    subst hr
    have eqk : ∀ {n : Nat}, n < 2 ^ 31 → nI k = nI n → k = n := fun hn h => (nI_eq (by omega) hn).mp h
    refine b_X12_does_104 (hw12_r0 := hw) (hc_isAtAlone := fun c => ?_) (h := fun c => ?_) (hc_becomesNext := fun c => ?_) (hc_leads := fun c => ?_) (hc_leads_2 := fun c => ?_) (hc_comes := fun c => ?_)
    · have c1 : k = 0 := eqk (n := 0) (by decide) c
      refine m_isAtAlone (t := 99) hw hg hv (fun j hj => ⟨fun q => ?_, fun q => by omega⟩) (fun f' h1 h2 => b_X12_does_147 (b_X12_does_236 (hK f' h1 ?_)))
      · exfalso
        rcases (by omega : j = 0 ∨ j = 1 ∨ j = 2 ∨ j = 3 ∨ j = 4 ∨ j = 5) with rfl | rfl | rfl | rfl | rfl | rfl <;> exact absurd q (by decide)
      · unfold ddN
        rw [if_pos c1]
        intro i hi
        rw [h2 i hi]
        unfold setR
        by_cases hq : 6 + 6 * v ≤ i ∧ i < 12 + 6 * v
        · rw [if_pos hq, if_pos hq]
          dsimp only
          rw [if_neg (by omega)]
        · rw [if_neg hq, if_neg hq]
    · have c1 : k = 1 := eqk (n := 1) (by decide) c
      have hw3 := hwv (Or.inl c1)
      have H : ∀ i, i ≤ 6 → ∀ g, MFr f g y → Pg0 g y (fun k => if 6 + 6 * v ≤ k ∧ k < 6 + 6 * v + i then p (6 + 6 * w + (k - (6 + 6 * v))) else p k) → G X (Rm (d + 2)) mX12_does 153 [(0, .ref y), (2, .int (nI v)), (3, .int (nI w)), (5, .int (nI (dAn p k v w))), (6, .int (nI i))] [] (sI μ g) 0 0 K := by
        refine dn 6 ?_ ?_
        · intro g h1 h2
          refine b_X12_does_153 (hw12_r0 := hw) (h := fun _ => b_X12_does_236 (hK g h1 ?_)) (hs := ?_) (hb := ?_) (h_2 := ?_)
          · unfold ddN
            rw [if_neg (by omega), if_pos c1]
            intro i hi
            rw [h2 i hi]
            unfold setR
            dsimp only
            by_cases hq : 6 + 6 * v ≤ i ∧ i < 12 + 6 * v
            · rw [if_pos hq, if_pos (show 6 + 6 * v ≤ i ∧ i < 6 + 6 * v + 6 by omega)]
            · rw [if_neg hq, if_neg (show ¬ (6 + 6 * v ≤ i ∧ i < 6 + 6 * v + 6) by omega)]
          all_goals (intro c; exact absurd (le_r _) c)
        · intro i hi ih g h1 h2
          have e1 : e_X12_atOf (sI μ g) y w i = nI (p (6 + 6 * w + i)) := by
            have := h2 (6 + 6 * w + i) (by omega)
            dsimp only at this
            by_cases hq : 6 + 6 * v ≤ 6 + 6 * w + i ∧ 6 + 6 * w + i < 6 + 6 * v + i
            · rw [if_pos hq] at this
              have e9 : v = w := by omega
              subst e9
              rw [show 6 + 6 * v + (6 + 6 * v + i - (6 + 6 * v)) = 6 + 6 * v + i by omega] at this
              exact this
            · rw [if_neg hq] at this
              exact this
          refine b_X12_does_153 (hw12_r0 := hw) (h := fun c => absurd c (ge_c (n := 6) hi (by decide))) (hs := fun _ => by omega) (hb := fun _ => by omega) (h_2 := fun _ => ?_)
          rw [e1, wi_sI]
          refine ih _ (h1.up (by omega)) (h2.up ?_ (fun k hk hne => ?_))
          · rw [if_pos (by omega), show 6 + 6 * v + i - (6 + 6 * v) = i by omega]
          · by_cases hq : 6 + 6 * v ≤ k ∧ k < 6 + 6 * v + i
            · rw [if_pos hq, if_pos (by omega)]
            · rw [if_neg hq, if_neg (by omega)]
      exact H 0 (Nat.zero_le _) f (MFr.rf _ _) (fun k hk => by dsimp only; rw [if_neg (by omega)]; exact hg k hk)
    · have c1 : k = 2 := eqk (n := 2) (by decide) c
      refine m_becomesNext hw hg hp hv (hwv (Or.inr (Or.inl c1))) (fun f' h1 h2 => b_X12_does_197 (b_X12_does_236 (hK f' h1 ?_)))
      unfold ddN
      rw [if_neg (by omega), if_neg (by omega), if_pos c1]
      exact h2
    · have c1 : k = 3 := eqk (n := 3) (by decide) c
      refine m_leads (on := 0) (w := 0) hw hg hp hv (by decide) (fun f' h1 h2 => b_X12_does_207 (b_X12_does_236 (hK f' h1 ?_))) (by decide)
      unfold ddN
      rw [if_neg (by omega), if_neg (by omega), if_neg (by omega), if_pos c1]
      exact h2
    · have c1 : k = 4 := eqk (n := 4) (by decide) c
      refine m_leads (on := 1) hw hg hp hv (hwv (Or.inr (Or.inr c1))) (fun f' h1 h2 => b_X12_does_217 (b_X12_does_236 (hK f' h1 ?_))) (by decide)
      unfold ddN
      rw [if_neg (by omega), if_neg (by omega), if_neg (by omega), if_neg (by omega), if_pos c1]
      exact h2
    · rw [nI_toInt (by omega)] at c
      have c1 : k = 5 := by omega
      have hn := hf c1
      refine m_comes (m := 0) hw hg hp hn (fun g h1 h2 => b_X12_does_225 (hw12_r0 := hw) (hc_isAtAlone := ?_))
      have e1 : e_X12_nodes (sI μ g) y - 1 = nI (p 60) := by
        show g (y + 1) 60 - 1 = _
        rw [h2 60 (by decide), app_60, nI_pred]
      rw [e1]
      refine m_isAtAlone (t := p 60) hw h2 hv (fun j hj => nI_eq (by omega) (by omega)) (fun f' h3 h4 => b_X12_does_236 (hK f' (h1.tr h3) ?_))
      unfold ddN
      rw [if_neg (by omega), if_neg (by omega), if_neg (by omega), if_neg (by omega), if_neg (by omega)]
      intro i hi
      rw [h4 i hi]
      have e60 : setR p v (fun i => if i = p 60 then 2 else 0) 60 = p 60 := setR_60 hv
      congr 1
      by_cases hq : 6 + 6 * v ≤ i ∧ i < 12 + 6 * v
      · rw [app_ne (by omega) (by rw [e60]; omega)]
        unfold setR
        rw [if_pos hq, if_pos hq]
      · rw [setR_out (by omega)]
        by_cases h60 : i = 60
        · subst h60
          rw [app_60, app_60, e60]
        · by_cases hn6 : i = p 60
          · have q1 := app_n (p := setR p v (fun i => if i = p 60 then 2 else 0)) (m := 0) (by rw [e60]; exact hn)
            rw [e60] at q1
            rw [hn6, app_n hn, q1]
          · rw [app_ne h60 hn6, app_ne h60 (by rw [e60]; exact hn6), setR_out (by omega)]
  have h2 : dAn p k v w = if k = 2 then hld p w else if k = 3 ∨ k = 4 then hld p v else 2 := rfl
  have T2 : (k = 3 ∨ k = 4) → G X (Rm (d + 2)) mX12_does 95 [(0, .ref y), (1, .int (nI k)), (2, .int (nI v)), (3, .int (nI w))] [] (sI μ f) 0 0 K := fun h => by
    refine b_X12_does_95 (hw12_r0 := hw) (hc_heldOf := m_held hw hg hp hv (b_X12_does_100 (T _ ?_)))
    rw [h2, if_neg (by omega), if_pos h]
    rfl
  refine b_X12_does_72 (hw12_r0 := hw) (h := fun _ c => T2 (Or.inl ((nI_eq (b := 3) (by omega) (by decide)).mp c))) (h_2 := fun c1 c2 c3 => T 2 ?_) (h_3 := fun _ _ c => T2 (Or.inr ((nI_eq (b := 4) (by omega) (by decide)).mp c))) (hc_heldOf := fun c => ?_)
  · rw [h2, if_neg (fun q => c1 (by rw [q]; rfl)), if_neg (fun q => q.elim (fun q => c2 (by rw [q]; rfl)) (fun q => c3 (by rw [q]; rfl)))]
  · have c2 : k = 2 := (nI_eq (b := 2) (by omega) (by decide)).mp c
    refine m_held hw hg hp (hwv (Or.inr (Or.inl c2))) (b_X12_does_82 (T _ ?_))
    rw [h2, if_pos c2]
    rfl
end P28
