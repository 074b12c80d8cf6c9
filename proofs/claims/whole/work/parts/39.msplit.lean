theorem mxo_ge {g : Nat → Nat} : ∀ {n i : Nat}, i < n → g i ≤ mxo g n
  | 0, _, h => absurd h (Nat.not_lt_zero _)
  | n + 1, i, h => by
    show g i ≤ max (mxo g n) (g n)
    by_cases e : i = n
    · subst e; omega
    · have := mxo_ge (g := g) (n := n) (i := i) (by omega)
      omega
theorem wc_mono {p : Nat → Nat} {v i : Nat} : ∀ m, wc p v i ≤ wc p v (i + m)
  | 0 => Nat.le_refl _
  | m + 1 => Nat.le_trans (wc_mono m) (Nat.le_add_right _ _)
theorem wf_stay {p : Nat → Nat} {v k i : Nat} (h : k < wc p v i) : ∀ m, wf p v k (i + m) = wf p v k i
  | 0 => rfl
  | m + 1 => by
    have := wc_mono (p := p) (v := v) (i := i) m
    rw [show i + (m + 1) = i + m + 1 by omega, wf_in (by omega)]
    exact wf_stay h m
theorem wf_end {p : Nat → Nat} {v k i n : Nat} (h : k < wc p v i) (hi : i ≤ n) : wf p v k n = wf p v k i := by
  have := wf_stay h (n - i)
  rw [show i + (n - i) = n by omega] at this
  exact this
/-- a way as the reference tells it -/
def wen (c : Nat) : Int32 := if c < 12 then nI c else if c = 12 then -1 else -4
def twinV (p : Nat → Nat) (v i : Nat) : Nat → Nat := pg (p 60 + 1) (upd1 p (p 60) 1) (fun u k => if k = p 60 ∧ u = v then 0 else p (6 + 6 * u + twS (p 60) i k)) (fun r k => p (24 + 6 * twS (p 60) i r + twS (p 60) i k))
section P39
variable {X : cX} {d : Nat} {μ : mM} {K : Option Value → mM → Prop} {f : Nat → Nat → Int32} {a b y v w : Nat} {p : Nat → Nat}
theorem m_wayOf {k : Nat} (hw : WF12 μ y) (hg : Pg0 f y p) (hp : okP p) (hv : v < 3) (hk : k < 2 ^ 31) (hK : K (some (.int (wen (wf p v k (p 60))))) (sI μ f)) : Ct X (Rm (d + 2)) mX12_wayOf [.ref y, .int (nI v), .int (nI k)] (sI μ f) K := by
  have h6 := hp.1
  have hl := hld_le hp hv
  have nd : e_X12_nodes (sI μ f) y = nI (p 60) := hg 60 (by decide)
  refine Ct_of rfl (Nat.le_of_ble_eq_true rfl) (b_X12_wayOf_0 hw (m_held hw hg hp hv ?_))
  have L : ∀ s : Nat, s = (if hld p v = 2 then 1 else 0) → ∀ i, i ≤ p 60 → wc p v i ≤ k → G X (Rm (d + 2)) mX12_wayOf 35 [(0, .ref y), (1, .int (nI v)), (3, .int (nI s)), (4, .int (nI (k - wc p v i))), (5, .int (nI i))] [] (sI μ f) 0 0 K := by
    intro s hs
    refine dn (p 60) ?_ ?_
    · intro hc
      rw [(wf_13 (p 60) h6).mpr hc] at hK
      refine b_X12_wayOf_35 (hw12_r0 := hw) (hK := fun _ => hK) (hs := ?_) (h := ?_) (h_2 := ?_) (hs_2 := ?_) (h_3 := ?_) (h_4 := ?_) <;> (intro c; rw [nd] at c; exact absurd (le_r _) c)
    · intro i hi ih hc
      have ew : wc p v (i + 1) = wc p v i + wn p v i := rfl
      have e1 : e_X12_atOf (sI μ f) y v i = nI (p (6 + 6 * v + i)) := hg _ (by omega)
      have l1 := hp.2.2.1 v i hv (by omega)
      have lh : p (6 + 6 * v + i) ≤ hld p v := mxo_ge (g := fun i => p (6 + 6 * v + i)) hi
      have v2 : (e_X12_atOf (sI μ f) y v i = (2 : Int32)) ↔ p (6 + 6 * v + i) = 2 := by rw [e1]; exact nI_eq (b := 2) (by omega) (by decide)
      have v1 : (e_X12_atOf (sI μ f) y v i = (1 : Int32)) ↔ p (6 + 6 * v + i) = 1 := by rw [e1]; exact nI_eq (b := 1) (by omega) (by decide)
      have e3 : iv (sI μ f) (y + 1) i = nI (p i) := hg _ (by omega)
      have l3 := hp.2.1 i (by omega)
      have m1 : (iv (sI μ f) (y + 1) i = (1 : Int32)) ↔ p i = 1 := by rw [e3]; exact nI_eq (b := 1) (by omega) (by decide)
      have No : wn p v i = 0 → G X (Rm (d + 2)) mX12_wayOf 117 [(0, .ref y), (1, .int (nI v)), (3, .int (nI s)), (4, .int (nI (k - wc p v i))), (5, .int (nI i))] [] (sI μ f) 0 0 K := fun z => by
        refine b_X12_wayOf_117 ?_
        have := ih (by omega)
        rw [ew, z] at this
        exact this
      have wf1 : wf p v k (i + 1) = if wc p v i ≤ k ∧ k < wc p v (i + 1) then (if k = wc p v i then i else 6 + i) else wf p v k i := rfl
      have Yes : (p (6 + 6 * v + i) ≠ 0 ∧ p (6 + 6 * v + i) = hld p v) → G X (Rm (d + 2)) mX12_wayOf 70 [(0, .ref y), (1, .int (nI v)), (3, .int (nI s)), (4, .int (nI (k - wc p v i))), (5, .int (nI i))] [] (sI μ f) 0 0 K := fun z => by
        have ewn : wn p v i = if p i = 1 ∧ hld p v = 1 then 2 else 1 := if_pos z
        have l0 : (nI (k - wc p v i) = 0) ↔ k - wc p v i = 0 := nI_z (by omega)
        have one : ¬ nI (k - wc p v i) = 0 → ¬ (p i = 1 ∧ hld p v = 1) → G X (Rm (d + 2)) mX12_wayOf 117 [(0, .ref y), (1, .int (nI v)), (3, .int (nI s)), (4, .int (nI (k - wc p v i) + -1)), (5, .int (nI i))] [] (sI μ f) 0 0 K := fun c q => by
          rw [l0] at c
          rw [if_neg q] at ewn
          refine b_X12_wayOf_117 ?_
          have := ih (by omega)
          rw [ew, ewn] at this
          rw [show k - wc p v i = (k - (wc p v i + 1)) + 1 by omega, pk_m1]
          exact this
        refine b_X12_wayOf_70 (hw12_r0 := hw) (hb := fun _ => by omega) (h := fun c1 c2 => one c1 (fun q => c2 (m1.mpr q.1))) (hs := fun _ _ => by omega) (h_2 := fun c1 _ c3 => one c1 (fun q => c3 (v1.mpr (by omega)))) (h_3 := fun c1 c2 c3 c4 => ?_) (hK := fun c1 c2 c3 c4 => ?_) (hK_2 := fun c => ?_)
        · rw [l0] at c1
          rw [m1] at c2
          rw [v1] at c3
          rw [if_pos ⟨c2, by omega⟩] at ewn
          have e9 : nI (k - wc p v i) + -1 = nI (k - wc p v i - 1) := by rw [show k - wc p v i = (k - wc p v i - 1) + 1 by omega, pk_m1]; congr 1
          rw [e9, nI_z (by omega)] at c4
          refine b_X12_wayOf_117 ?_
          have := ih (by omega)
          rw [ew, ewn] at this
          rw [e9, show k - wc p v i - 1 = (k - (wc p v i + 2)) + 1 by omega, pk_m1]
          exact this
        · rw [l0] at c1
          rw [m1] at c2
          rw [v1] at c3
          rw [if_pos ⟨c2, by omega⟩] at ewn
          have e9 : nI (k - wc p v i) + -1 = nI (k - wc p v i - 1) := by rw [show k - wc p v i = (k - wc p v i - 1) + 1 by omega, pk_m1]; congr 1
          rw [e9, nI_z (by omega)] at c4
          have lt : k < wc p v (i + 1) := by omega
          rw [wf_end lt (by omega), wf1, if_pos ⟨hc, lt⟩, if_neg (by omega)] at hK
          unfold wen at hK
          rw [if_pos (by omega)] at hK
          rw [show (6 : Int32) + nI i = nI (6 + i) from nI_add 6 i]
          exact hK
        · rw [l0] at c
          have : 1 ≤ wn p v i := by rw [ewn]; split <;> omega
          have lt : k < wc p v (i + 1) := by omega
          rw [wf_end lt (by omega), wf1, if_pos ⟨hc, lt⟩, if_pos (by omega)] at hK
          unfold wen at hK
          rw [if_pos (by omega)] at hK
          exact hK
      have s1 : s ≤ 1 := by rw [hs]; split <;> omega
      refine b_X12_wayOf_35 (hw12_r0 := hw) (hK := fun c => absurd c (by rw [nd]; exact ge_c hi (by omega))) (hs := fun _ => by omega) (h := fun _ c => Yes ?_) (h_2 := fun _ c1 c2 => No (if_neg (fun z => ?_))) (hs_2 := fun _ _ _ => by omega) (h_3 := fun _ c1 c2 c3 => No (if_neg (fun z => ?_))) (h_4 := fun _ c1 c2 c3 => Yes ?_)
      · rw [v2] at c; omega
      · rw [v2] at c1
        rw [nI_z (by omega)] at c2
        have : hld p v = 2 := Decidable.byContradiction fun q => by rw [if_neg q] at hs; omega
        omega
      · rw [v2] at c1
        rw [v1] at c3
        omega
      · rw [v1] at c3
        rw [nI_z (by omega)] at c2
        have : hld p v ≠ 2 := fun q => by rw [if_pos q] at hs; omega
        omega
  have T : ∀ s : Nat, s = (if hld p v = 2 then 1 else 0) → G X (Rm (d + 2)) mX12_wayOf 14 [(0, .ref y), (1, .int (nI v)), (2, .int (nI k))] [.int (nI s)] (sI μ f) 0 0 K := by
    intro s hs
    have s1 : s ≤ 1 := by rw [hs]; split <;> omega
    have w0 : wc p v 0 = if hld p v = 2 then 0 else 1 := rfl
    refine b_X12_wayOf_14 (h := fun c => b_X12_wayOf_32 ?_) (h_2 := fun c1 c2 => b_X12_wayOf_32 ?_) (hK := fun c1 c2 => ?_)
    · rw [nI_z (by omega)] at c
      have h2 : hld p v = 2 := Decidable.byContradiction fun q => by rw [if_neg q] at hs; omega
      rw [if_pos h2] at w0
      have := L s hs 0 (Nat.zero_le _) (by omega)
      rw [w0] at this
      exact this
    · rw [nI_z (by omega)] at c1 c2
      have h2 : ¬ hld p v = 2 := fun q => by rw [if_pos q] at hs; omega
      rw [if_neg h2] at w0
      have := L s hs 0 (Nat.zero_le _) (by omega)
      rw [w0] at this
      rw [show k = (k - 1) + 1 by omega, pk_m1]
      exact this
    · rw [nI_z (by omega)] at c1 c2
      have h2 : ¬ hld p v = 2 := fun q => by rw [if_pos q] at hs; omega
      rw [if_neg h2] at w0
      have e0 : wf p v k 0 = 12 := if_pos ⟨h2, c2⟩
      rw [wf_end (i := 0) (by omega) (Nat.zero_le _), e0] at hK
      exact hK
  refine b_X12_wayOf_5 (h := fun c => T 0 ?_) (h_2 := fun c => T 1 ?_)
  · have c1 : ¬ hld p v = 2 := fun q => c (congrArg nI q)
    rw [if_neg c1]
  · have c1 : hld p v = 2 := (nI_eq (b := 2) (by show hld p v < _; omega) (by decide)).mp c
    rw [if_pos c1]
theorem wen_4 {c : Nat} (h : c ≤ 13) : wen c = -4 ↔ c = 13 := by
  unfold wen
  by_cases h1 : c < 12
  · rw [if_pos h1]
    exact ⟨fun q => absurd q (nI_ne4 (by omega)), fun q => by omega⟩
  · rw [if_neg h1]
    by_cases h2 : c = 12
    · rw [if_pos h2]
      exact ⟨fun q => absurd q (by decide), fun q => by omega⟩
    · rw [if_neg h2]
      exact ⟨fun _ => by omega, fun _ => rfl⟩
theorem wf_le {k : Nat} (h6 : p 60 ≤ 6) : wf p v k (p 60) ≤ 13 := by
  have := wf_lt (p := p) (v := v) (k := k) (p 60)
  omega
theorem m_ways (hw : WF12 μ y) (hg : Pg0 f y p) (hp : okP p) (hv : v < 3) (hK : K (some (.int (nI (wc p v (p 60))))) (sI μ f)) : Ct X (Rm (d + 3)) mX12_ways [.ref y, .int (nI v)] (sI μ f) K := by
  have h6 := hp.1
  have hwc := wc_le p v (p 60)
  have L : ∀ n, n ≤ wc p v (p 60) → G X (Rm (d + 3)) mX12_ways 11 [(0, .ref y), (1, .int (nI v)), (2, .int (nI n))] [] (sI μ f) 0 0 K := by
    refine dn (wc p v (p 60)) ?_ ?_
    · refine b_X12_ways_11 hw (m_wayOf hw hg hp hv (by omega) (b_X12_ways_17 (hK := fun _ => hK) (h := fun c => absurd ((wen_4 (wf_le h6)).mpr ((wf_13 (p 60) h6).mpr (Nat.le_refl _))) c)))
    · intro n hn ih
      refine b_X12_ways_11 hw (m_wayOf hw hg hp hv (by omega) (b_X12_ways_17 (hK := fun c => ?_) (h := fun _ => ih)))
      have := (wf_13 (p 60) h6).mp ((wen_4 (wf_le h6)).mp c)
      omega
  have iv3 : ¬ e_X12_isVariable (sI μ f) (nI v) = 0 := by rw [m_isV (by omega)]; omega
  exact Ct_of rfl (Nat.le_of_ble_eq_true rfl) (b_X12_ways_0 (hs := e_in01 _ _ _ _) (h := fun _ => L 0 (Nat.zero_le _)) (hK := fun c => absurd c iv3))
theorem m_twins {i : Nat} (hw : WF12 μ y) (hg : Pg0 f y p) (hp : okP p) (hv : v < 3) (hn : p 60 < 6) (hi : i < p 60) (hK : ∀ f', MFr f f' y → Pg0 f' y (twinV p v i) → K none (sI μ f')) : Ct X (Rm (d + 2)) mX12_twins [.ref y, .int (nI v), .int (nI i)] (sI μ f) K := by
  have h6 := hp.1
  have nd : e_X12_nodes (sI μ f) y = nI (p 60) := hg 60 (by decide)
  have z60 : ∀ r k, r < 6 → k < 6 → (p 60 ≤ r ∨ p 60 ≤ k) → p (24 + 6 * r + k) = 0 := fun r k hr hk h => zero_out hp hr hk h
  have tn : twS (p 60) i (p 60) = i := if_pos rfl
  have tk : ∀ k, k ≠ p 60 → twS (p 60) i k = k := fun k h => if_neg h
  refine Ct_of rfl (Nat.le_of_ble_eq_true rfl) (b_X12_twins_0 hw (m_comes (m := 1) hw hg hp hn (fun f1 r1 r2 => b_X12_twins_10 ?_)))
  rw [nd]
  have H2 : ∀ c, c ≤ p 60 → ∀ g, MFr f g y → T4 g y 0 (p 60 + 1) (upd1 p (p 60) 1) (fun u k => if k = p 60 ∧ u = v then 0 else p (6 + 6 * u + twS (p 60) i k)) (fun r k => if r = p 60 ∧ k < c then p (24 + 6 * i + k) else if k = p 60 ∧ r < c then p (24 + 6 * r + i) else p (24 + 6 * r + k)) → G X (Rm (d + 2)) mX12_twins 60 [(0, .ref y), (2, .int (nI i)), (3, .int (nI (p 60))), (4, .int (nI c))] [] (sI μ g) 0 0 K := by
    refine dn (p 60) ?_ ?_
    · intro g q1 q2
      have e1 : e_X12_nextOf (sI μ g) y i i = nI (p (24 + 6 * i + i)) := by
        have := q2.2.2.2 i i (by omega) (by omega)
        (try dsimp only at this)
        rw [if_neg (by omega), if_neg (by omega), Nat.zero_add] at this
        exact this
      refine b_X12_twins_60 (j0 := 24 + 6 * p 60 + p 60) (j1 := 0) (j2 := 0) (hw12_r0 := hw) (hs := fun _ => by omega) (hi_j0 := fun _ => ix24) (hb := fun _ => by omega) (hK := fun _ => ?_) (hs_2 := ?_) (hi_j1 := ?_) (hb_2 := ?_) (hs_3 := ?_) (hi_j2 := ?_) (hb_3 := ?_) (h := ?_)
      · rw [e1, wi_sI]
        have q3 := T4.uN (i := p 60) (j := p 60) (n := p (24 + 6 * i + i)) (N' := fun r k => p (24 + 6 * twS (p 60) i r + twS (p 60) i k)) q2 hn hn (by (try dsimp only); rw [tn]) (fun r k hr hk hne => by
          (try dsimp only)
          by_cases z1 : r = p 60
          · rw [z1, tn, tk k (by omega)]
            by_cases z2 : k < p 60
            · rw [if_pos ⟨rfl, z2⟩]
            · rw [if_neg (by omega), if_neg (by omega), z60 i k (by omega) hk (by omega), z60 (p 60) k hn hk (by omega)]
          · rw [tk r z1, if_neg (by omega)]
            by_cases z2 : k = p 60
            · rw [z2, tn]
              by_cases z3 : r < p 60
              · rw [if_pos ⟨rfl, z3⟩]
              · rw [if_neg (by omega), z60 r i hr (by omega) (by omega), z60 r (p 60) hr hn (by omega)]
            · rw [if_neg (by omega), tk k z2])
        rw [Nat.zero_add] at q3
        exact hK _ (q1.up (by omega)) (Pg_0.mp (T4_pg q3))
      all_goals (intro c; exact absurd (le_r _) c)
    · intro c hc ih g q1 q2
      have e1 : e_X12_nextOf (sI μ g) y i c = nI (p (24 + 6 * i + c)) := by
        have := q2.2.2.2 i c (by omega) (by omega)
        (try dsimp only at this)
        rw [if_neg (by omega), if_neg (by omega), Nat.zero_add] at this
        exact this
      refine b_X12_twins_60 (j0 := 0) (j1 := 24 + 6 * p 60 + c) (j2 := 24 + 6 * c + p 60) (hw12_r0 := hw) (hs := fun z => absurd z (ge_c hc (by omega))) (hi_j0 := fun z => absurd z (ge_c hc (by omega))) (hb := fun z => absurd z (ge_c hc (by omega))) (hK := fun z => absurd z (ge_c hc (by omega))) (hs_2 := fun _ => by omega) (hi_j1 := fun _ => ix24) (hb_2 := fun _ => by omega) (hs_3 := fun _ => by omega) (hi_j2 := fun _ => ix24) (hb_3 := fun _ => by omega) (h := fun _ => ?_)
      rw [e1, wi_sI]
      have q3 := T4.uN (i := p 60) (j := c) (n := p (24 + 6 * i + c)) (N' := fun r k => if r = p 60 ∧ k < c + 1 then p (24 + 6 * i + k) else if k = p 60 ∧ r < c then p (24 + 6 * r + i) else p (24 + 6 * r + k)) q2 hn (by omega) (by (try dsimp only); rw [if_pos (by omega)]) (fun r k hr hk hne => by
        (try dsimp only)
        by_cases z : r = p 60 ∧ k < c
        · rw [if_pos z, if_pos (by omega)]
        · rw [if_neg z, if_neg (show ¬ (r = p 60 ∧ k < c + 1) by omega)])
      rw [Nat.zero_add] at q3
      have e2 : e_X12_nextOf (sI μ (u2 g (y + 1) (24 + 6 * p 60 + c) (nI (p (24 + 6 * i + c))))) y c i = nI (p (24 + 6 * c + i)) := by
        have := q3.2.2.2 c i (by omega) (by omega)
        (try dsimp only at this)
        rw [if_neg (by omega), if_neg (by omega), Nat.zero_add] at this
        exact this
      rw [e2, wi_sI]
      have q4 := T4.uN (i := c) (j := p 60) (n := p (24 + 6 * c + i)) (N' := fun r k => if r = p 60 ∧ k < c + 1 then p (24 + 6 * i + k) else if k = p 60 ∧ r < c + 1 then p (24 + 6 * r + i) else p (24 + 6 * r + k)) q3 (by omega) hn (by (try dsimp only); rw [if_neg (by omega), if_pos (by omega)]) (fun r k hr hk hne => by
        (try dsimp only)
        by_cases z : r = p 60 ∧ k < c + 1
        · rw [if_pos z, if_pos z]
        · rw [if_neg z, if_neg z]
          by_cases z2 : k = p 60 ∧ r < c
          · rw [if_pos z2, if_pos (by omega)]
          · rw [if_neg z2, if_neg (by omega)])
      rw [Nat.zero_add] at q4
      exact ih _ ((q1.up (by omega)).up (by omega)) q4
  have H1 : ∀ c, c ≤ 3 → ∀ g, MFr f g y → T4 g y 0 (p 60 + 1) (upd1 p (p 60) 1) (fun u k => if u < c ∧ k = p 60 then (if u = v then 0 else p (6 + 6 * u + i)) else p (6 + 6 * u + k)) (fun r k => p (24 + 6 * r + k)) → G X (Rm (d + 2)) mX12_twins 13 [(0, .ref y), (1, .int (nI v)), (2, .int (nI i)), (3, .int (nI (p 60))), (4, .int (nI c))] [] (sI μ g) 0 0 K := by
    refine dn 3 ?_ ?_
    · intro g q1 q2
      refine b_X12_twins_13 (hw12_r0 := hw) (h := fun _ => H2 0 (Nat.zero_le _) g q1 (q2.cg (fun _ _ => rfl) (fun u k hu hk => ?_) (fun r k hr hk => by (try dsimp only); rw [if_neg (by omega), if_neg (by omega)]))) (hs := ?_) (h_2 := ?_) (h_3 := ?_)
      · (try dsimp only)
        by_cases z : k = p 60
        · rw [if_pos (⟨hu, z⟩ : u < 3 ∧ k = p 60)]
          by_cases z2 : u = v
          · rw [if_pos ⟨z, z2⟩, if_pos z2]
          · rw [if_neg (by omega), if_neg z2, z, tn]
        · rw [if_neg (by omega), if_neg (by omega), tk k z]
      all_goals (intro c; exact absurd (le_r _) c)
    · intro c hc ih g q1 q2
      have e1 : e_X12_atOf (sI μ g) y c i = nI (p (6 + 6 * c + i)) := by
        have := q2.2.2.1 c i hc (by omega)
        (try dsimp only at this)
        rw [if_neg (by omega), Nat.zero_add] at this
        exact this
      have S : ∀ t : Nat, t = (if c = v then 0 else p (6 + 6 * c + i)) → G X (Rm (d + 2)) mX12_twins 50 [(0, .ref y), (1, .int (nI v)), (2, .int (nI i)), (3, .int (nI (p 60))), (4, .int (nI c))] [.int (nI t), .int ((6 : Int32) + 6 * nI c + nI (p 60)), .ref (y + 1)] (sI μ g) 0 0 K := fun t ht => by
        refine b_X12_twins_50 (n0 := 366) (j0 := 6 + 6 * c + p 60) (hk_q0 := w12_k0 hw) (hi_j0 := ix66) (hb := by omega) (h := ?_)
        rw [wi_sI]
        have q3 := T4.uA (v := c) (i := p 60) (n := t) (A' := fun u k => if u < c + 1 ∧ k = p 60 then (if u = v then 0 else p (6 + 6 * u + i)) else p (6 + 6 * u + k)) q2 hc hn (by (try dsimp only); rw [if_pos (by omega), ht]) (fun u k hu hk hne => by
          (try dsimp only)
          by_cases z : u < c ∧ k = p 60
          · rw [if_pos z, if_pos (show u < c + 1 ∧ k = p 60 by omega)]
          · rw [if_neg z, if_neg (show ¬ (u < c + 1 ∧ k = p 60) by omega)])
        rw [Nat.zero_add] at q3
        exact ih _ (q1.up (by omega)) q3
      have ec : (nI c = nI v) ↔ c = v := nI_eq (by omega) (by omega)
      refine b_X12_twins_13 (hw12_r0 := hw) (h := fun z => absurd z (ge_c (n := 3) hc (by decide))) (hs := fun _ _ => by omega) (h_2 := fun _ z => ?_) (h_3 := fun _ z => S 0 ?_)
      · rw [e1]
        refine S _ ?_
        rw [if_neg (fun q => z (ec.mpr q))]
      · rw [if_pos (ec.mp z)]
  refine H1 0 (Nat.zero_le _) f1 r1 ?_
  have t0 := T4_of (Pg_0.mpr r2)
  have t1 : T4 f1 y 0 (p 60 + 1) (app p 1) (fun v i => app p 1 (6 + 6 * v + i)) (fun i j => app p 1 (24 + 6 * i + j)) := ⟨by rw [t0.1, app_60], t0.2.1, t0.2.2.1, t0.2.2.2⟩
  refine t1.cg (fun k hk => ?_) (fun u k hu hk => ?_) (fun r k hr hk => ?_)
  · by_cases z : k = p 60
    · rw [z, upd1_s, app_n hn]
    · rw [upd1_n z, app_ne (by omega) z]
  · (try dsimp only)
    rw [if_neg (by omega), app_ne (by omega) (by omega)]
  · rw [app_ne (by omega) (by omega)]
theorem Pg0.cg {q q' : Nat → Nat} (h : Pg0 f y q) (h1 : ∀ k, k < 61 → q' k = q k) : Pg0 f y q' := fun k hk => by rw [h1 k hk]; exact h k hk
theorem twinV_eq {i k : Nat} (h : ¬ (6 + 6 * v ≤ k ∧ k < 12 + 6 * v)) (hk : k < 61) : twinV p v i k = twin p i k := by
  unfold twinV twin pg
  by_cases h1 : k < 6
  · rw [if_pos h1, if_pos h1]
  · rw [if_neg h1, if_neg h1]
    by_cases h2 : k < 24
    · rw [if_pos h2, if_pos h2]
      dsimp only
      rw [if_neg (by omega)]
    · rw [if_neg h2, if_neg h2]
theorem m_split {k : Nat} (hw : WF12 μ y) (hg : Pg0 f y p) (hp : okP p) (hv : v < 3) (hk : k < 2 ^ 32) (hK : ∀ f', MFr f f' y → Pg0 f' y (splQ p v k) → K (some (.int (splA p v k))) (sI μ f')) : Ct X (Rm (d + 3)) mX12_split [.ref y, .int (nI v), .int (nI k)] (sI μ f) K := by
  have h6 := hp.1
  have hl := wf_lt (p := p) (v := v) (k := k) (p 60)
  have wl := wf_le (p := p) (v := v) (k := k) h6
  have iv3 : ¬ e_X12_isVariable (sI μ f) (nI v) = 0 := by rw [m_isV (by omega)]; omega
  have nd : e_X12_nodes (sI μ f) y = nI (p 60) := hg 60 (by decide)
  have BAD : (wf p v k (p 60) = 13 ∨ 2 ^ 31 ≤ k) → K (some (.int (-1))) (sI μ f) := fun h => by
    have := hK f (MFr.rf _ _)
    unfold splQ splA at this
    rw [if_pos h, if_pos h] at this
    exact this hg
  have k0 : ((0 : Int32) ≤ nI k) ↔ ¬ 2 ^ 31 ≤ k := by
    rw [← lt0 hk]
    exact ⟨fun h => Int32.not_lt.mpr h, fun h => Int32.not_lt.mp h⟩
  -- the variable is at one alone
  have Fin : ∀ (c l3 : Int32) (t : Nat) (g : Nat → Nat → Int32) (q : Nat → Nat), MFr f g y → Pg0 g y q → okP q → (∀ j, j < 6 → (nI j = c ↔ j = t)) → ((t < q 60 ∧ ¬ l3 < 0 ∧ l3 - l3 / 6 * 6 = nI t) ∨ (6 ≤ t ∧ l3 < 0)) → (∀ f', MFr f f' y → Pg0 f' y (if t < 6 then upd1 (aloneR q v t) t 0 else setR q v (fun _ => 0)) → K (some (.int (nI (q 60)))) (sI μ f')) → G X (Rm (d + 3)) mX12_split 74 [(0, .ref y), (3, .int l3)] [.int c, .int (nI v), .ref y] (sI μ g) 0 0 K := by
    intro c l3 t g q s1 s2 s3 s4 s5 s6
    have q6 := s3.1
    refine b_X12_split_74 hw (m_isAtAlone (t := t) hw s2 hv s4 (fun f2 u1 uu => ?_))
    have s60 : ∀ h : Nat → Nat, setR q v h 60 = q 60 := fun h => setR_60 hv
    refine b_X12_split_77 (j0 := t) (hw12_r0 := hw) (h := fun z => b_X12_split_91 hw ?_) (hi_j0 := fun z => ?_) (hb := fun z => ?_) (h_2 := fun z => b_X12_split_91 hw ?_)
    · have t6 : 6 ≤ t := by rcases s5 with w | w
                            · exact absurd z w.2.1
                            · exact w.1
      have e9 : e_X12_nodes (sI μ f2) y = nI (q 60) := by have := uu 60 (by decide); rw [s60] at this; exact this
      rw [e9]
      refine s6 f2 (s1.tr u1) ?_
      rw [if_neg (by omega)]
      refine uu.cg (fun k hk => ?_)
      unfold setR
      by_cases w : 6 + 6 * v ≤ k ∧ k < 12 + 6 * v
      · rw [if_pos w, if_pos w]
        dsimp only
        rw [if_neg (by omega)]
      · rw [if_neg w, if_neg w]
    · rcases s5 with w | w
      · exact w.2.2
      · exact absurd w.2 z
    · rcases s5 with w | w
      · omega
      · exact absurd w.2 z
    · have tq : t < q 60 := by rcases s5 with w | w
                               · exact w.1
                               · exact absurd w.2 z
      rw [wi_sI]
      have e9 : e_X12_nodes (sI μ (u2 f2 (y + 1) t 0)) y = nI (q 60) := by
        have := uu 60 (by decide)
        rw [s60] at this
        show u2 f2 (y + 1) t 0 (y + 1) 60 = _
        rw [u2_k (by omega)]; exact this
      rw [e9]
      refine s6 _ ((s1.tr u1).up (by omega)) ?_
      rw [if_pos (by omega)]
      exact Pg0.u1 (n := 0) uu
  refine Ct_of rfl (Nat.le_of_ble_eq_true rfl) (b_X12_split_0 (hs := e_in01 _ _ _ _) (hK := fun c => absurd c iv3) (hw12_r0 := hw) (hc_wayOf := fun _ c => ?_) (hK_2 := fun _ c => BAD (Or.inr (Decidable.byContradiction fun z => c (k0.mpr z)))))
  have nk := k0.mp c
  refine m_wayOf hw hg hp hv (by omega) ?_
  generalize hc : wf p v k (p 60) = cc at hl wl BAD
  have e5 : cc ≠ 13 → (wen cc ≤ (5 : Int32) ↔ (cc < 6 ∨ cc = 12)) := fun h13 => by
    unfold wen
    by_cases h1 : cc < 12
    · rw [if_pos h1]
      have : (nI cc ≤ (5 : Int32)) ↔ cc ≤ 5 := nI_leI (b := 5) (by omega) (by decide)
      rw [this]; omega
    · rw [if_neg h1, if_pos (by omega)]
      exact ⟨fun _ => by omega, fun _ => by decide⟩
  have hK2 : cc ≠ 13 → (6 ≤ cc ∧ cc < 12 → p 60 ≠ 6) → ∀ f', MFr f f' y → Pg0 f' y (splP p v cc) → K (some (.int (nI (splP p v cc 60)))) (sI μ f') := fun h1 h2 f' u1 u2 => by
    have := hK f' u1
    unfold splQ splA at this
    rw [hc] at this
    have n1 : ¬ (cc = 13 ∨ 2 ^ 31 ≤ k) := by omega
    have n2 : ¬ (6 ≤ cc ∧ cc < 12 ∧ p 60 = 6) := by omega
    rw [if_neg n1, if_neg n1, if_neg n2, if_neg n2] at this
    exact this u2
  have T45 : cc ≠ 13 → (6 ≤ cc ∧ cc < 12 → p 60 ≠ 6) → G X (Rm (d + 3)) mX12_split 45 [(0, .ref y), (1, .int (nI v)), (3, .int (wen cc))] [] (sI μ f) 0 0 K := by
    intro h13 hfull
    have hK3 := hK2 h13 hfull
    refine b_X12_split_45 (h := fun z => ?_) (hw12_r0 := hw) (hc_twins := fun z => ?_)
    · rw [e5 h13] at z
      have e9 : splP p v cc = if cc < 6 then upd1 (aloneR p v cc) cc 0 else setR p v (fun _ => 0) := by
        unfold splP
        by_cases z1 : cc < 6
        · rw [if_pos z1, if_pos z1]
        · rw [if_neg z1, if_neg z1, if_neg (by omega)]
      have e8 : splP p v cc 60 = p 60 := by
        rw [e9]
        split
        · rw [upd1_n (by omega)]; exact setR_60 hv
        · exact setR_60 hv
      rw [e8, e9] at hK3
      by_cases z1 : cc < 6
      · have ew : wen cc = nI cc := if_pos (by omega)
        have cl : cc < p 60 := by omega
        have er : nI cc - nI cc / 6 * 6 = nI cc := by rw [ixrem (by omega), Nat.mod_eq_of_lt z1]
        rw [ew]
        refine b_X12_split_59 (h := fun _ => ?_) (h_2 := fun w => absurd (nI_pos' (by omega)) w)
        rw [er]
        exact Fin (nI cc) (nI cc) cc f p (MFr.rf _ _) hg hp (fun j hj => nI_eq (by omega) (by omega)) (Or.inl ⟨cl, nI_pos (by omega), er⟩) hK3
      · have c12 : cc = 12 := by omega
        subst c12
        have ew : wen 12 = -1 := by decide
        rw [ew]
        refine b_X12_split_59 (h := fun w => absurd w (by decide)) (h_2 := fun _ => ?_)
        exact Fin (-4) (-1) 12 f p (MFr.rf _ _) hg hp (fun j hj => ⟨fun w => absurd w (nI_ne4 (by omega)), fun w => by omega⟩) (Or.inr ⟨by decide, by decide⟩) hK3
    · rw [e5 h13] at z
      have z1 : 6 ≤ cc ∧ cc < 12 := by omega
      have hn := hfull z1
      have ew : wen cc = nI cc := if_pos (by omega)
      have e6 : nI cc - 6 = nI (cc - 6) := pk_sub (b := 6) (by omega)
      have er : nI cc - nI cc / 6 * 6 = nI (cc - 6) := by rw [ixrem (by omega)]; congr 1; omega
      rw [ew, e6]
      refine m_twins hw hg hp hv (by omega) (by omega) (fun f1 u1 u2 => b_X12_split_59 (h := fun _ => ?_) (h_2 := fun w => absurd (nI_pos' (by omega)) w))
      rw [er]
      have e9 : splP p v cc = upd1 (aloneR (twin p (cc - 6)) v (cc - 6)) (cc - 6) 0 := by
        unfold splP
        rw [if_neg (by omega), if_pos (by omega)]
      have e8 : splP p v cc 60 = p 60 + 1 := by
        rw [e9, upd1_n (by omega)]
        exact setR_60 hv
      rw [e8, e9] at hK3
      -- the row of v may be any
      have okV : okP (twinV p v (cc - 6)) := by
        have ok := okP_twin hp (i := cc - 6) (by omega) (by omega)
        have e60 : twinV p v (cc - 6) 60 = twin p (cc - 6) 60 := rfl
        have le : ∀ r, r < 61 → twinV p v (cc - 6) r ≤ twin p (cc - 6) r := fun r hr => by
          by_cases w : 6 + 6 * v ≤ r ∧ r < 12 + 6 * v
          · unfold twinV twin pg
            rw [if_neg (by omega), if_pos (by omega), if_neg (by omega), if_pos (by omega)]
            dsimp only
            split
            · exact Nat.zero_le _
            · exact Nat.le_refl _
          · rw [twinV_eq w hr]; exact Nat.le_refl _
        obtain ⟨q1, q2, q3, q4, q5⟩ := ok
        refine ⟨q1, fun i hi => Nat.le_trans (le i (by omega)) (q2 i hi), fun v i hv hi => Nat.le_trans (le _ (by omega)) (q3 v i hv hi), fun i j hi hj => Nat.le_trans (le _ (by omega)) (q4 i j hi hj), fun i hi h6 => ?_⟩
        obtain ⟨w1, w2, w3⟩ := q5 i hi h6
        have zz : ∀ r, r < 61 → twin p (cc - 6) r = 0 → twinV p v (cc - 6) r = 0 := fun r hr hz => by have := le r hr; omega
        exact ⟨zz _ (by omega) w1, fun u hu => zz _ (by omega) (w2 u hu), fun j hj => ⟨zz _ (by omega) (w3 j hj).1, zz _ (by omega) (w3 j hj).2⟩⟩
      refine Fin (nI (cc - 6)) (nI cc) (cc - 6) f1 (twinV p v (cc - 6)) u1 u2 okV (fun j hj => nI_eq (by omega) (by omega)) (Or.inl ⟨by show _ < p 60 + 1; omega, nI_pos (by omega), er⟩) (fun f' w1 w2 => hK3 f' w1 ?_)
      rw [if_pos (by omega)] at w2
      refine w2.cg (fun r hr => ?_)
      unfold upd1 aloneR setR
      by_cases w : r = cc - 6
      · rw [if_pos w, if_pos w]
      · rw [if_neg w, if_neg w]
        by_cases w3 : 6 + 6 * v ≤ r ∧ r < 12 + 6 * v
        · rw [if_pos w3, if_pos w3]
        · rw [if_neg w3, if_neg w3]
          exact (twinV_eq w3 hr).symm
  have w4 := wen_4 wl
  refine b_X12_split_19 (h := fun z1 z2 => T45 (fun q => z1 (w4.mpr q)) (fun q => ?_)) (hw12_r0 := hw) (h_2 := fun z1 z2 z3 => T45 (fun q => z1 (w4.mpr q)) (fun _ q => z3 (by rw [nd, q]; rfl))) (hK := fun z1 z2 z3 => ?_) (hK_2 := fun z => BAD (Or.inl (w4.mp z)))
  · rw [e5 (fun q => z1 (w4.mpr q))] at z2; omega
  · have n13 : cc ≠ 13 := fun q => z1 (w4.mpr q)
    rw [e5 n13] at z2
    rw [nd] at z3
    have e60 : p 60 = 6 := (nI_eq (b := 6) (by omega) (by decide)).mp z3
    have := hK f (MFr.rf _ _)
    unfold splQ splA at this
    rw [hc] at this
    have n1 : ¬ (cc = 13 ∨ 2 ^ 31 ≤ k) := by omega
    have n2 : 6 ≤ cc ∧ cc < 12 ∧ p 60 = 6 := by omega
    rw [if_neg n1, if_neg n1, if_pos n2, if_pos n2] at this
    exact this hg
end P39
