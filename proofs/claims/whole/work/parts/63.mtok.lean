/-- the reference's tape -/
def MTP (f : Nat → Nat → Int32) (y : Nat) (T : Nat → Nat) (n : Nat) : Prop := n ≤ 320 ∧ (∀ i, i < n → T i ≤ 127) ∧ f y 6 = nI n ∧ ∀ i, i < n → f (y + 4) i = nI (T i)
/-- a good token -/
def LV (f : Nat → Nat → Int32) (y : Nat) (T : Nat → Nat) (n q : Nat) : Prop := f y 8 = 0 ∧ f y 10 = nI (tB T n q) ∧ f y 11 = nI (tA T n q) ∧ f y 12 = nI (tK T n q) ∧ (tK T n q = 2 → f y 13 = nI (num T n q)) ∧ tK T n q ≠ 5
/-- a fault was found -/
def BR (f : Nat → Nat → Int32) (y n : Nat) (e : Nat × Nat) : Prop := f y 8 = nI e.1 ∧ (1 ≤ e.1 ∧ e.1 ≤ 6) ∧ f y 9 = nI e.2 ∧ ∃ h s k, f y 11 = nI h ∧ f y 10 = nI s ∧ f y 12 = nI k ∧ h ≤ s ∧ s ≤ n ∧ k ≤ 5
def RQ (f : Nat → Nat → Int32) (y : Nat) (T : Nat → Nat) (n q : Nat) : Prop := q ≤ n ∧ ((tK T n q = 5 ∧ BR f y n (1, tA T n q)) ∨ LV f y T n q)
/-- only what the reading itself changes of the reference -/
def MG (f g : Nat → Nat → Int32) (y : Nat) : Prop := (∀ z, z ≠ y → ∀ j, g z j = f z j) ∧ ∀ j, (j < 8 ∨ 14 ≤ j) → g y j = f y j
theorem MG.rf (f : Nat → Nat → Int32) (y : Nat) : MG f f y := ⟨fun _ _ _ => rfl, fun _ _ => rfl⟩
theorem MG.tr {f g h : Nat → Nat → Int32} {y : Nat} (h1 : MG f g y) (h2 : MG g h y) : MG f h y := ⟨fun z a j => (h2.1 z a j).trans (h1.1 z a j), fun j a => (h2.2 j a).trans (h1.2 j a)⟩
theorem MTP.fr {f g : Nat → Nat → Int32} {y n : Nat} {T : Nat → Nat} (h : MTP f y T n) (h6 : g y 6 = f y 6) (h4 : ∀ j, g (y + 4) j = f (y + 4) j) : MTP g y T n := ⟨h.1, h.2.1, by rw [h6]; exact h.2.2.1, fun i hi => by rw [h4]; exact h.2.2.2 i hi⟩
theorem MTP.mg {f g : Nat → Nat → Int32} {y n : Nat} {T : Nat → Nat} (h : MTP f y T n) (hg : MG f g y) : MTP g y T n := h.fr (hg.2 6 (Or.inl (by decide))) (fun j => hg.1 _ (by omega) j)
theorem NM.mg {f g : Nat → Nat → Int32} {y : Nat} (h : NM f y) (hg : MG f g y) : NM g y := ⟨fun i hi => by rw [hg.1 _ (by omega)]; exact h.1 i hi, fun i hi => by rw [hg.1 _ (by omega)]; exact h.2 i hi⟩
def bAt (T : Nat → Nat) (n i : Nat) : Int32 := if i < n then nI (T i) else -4
section P63
variable {X : cX} {d : Nat} {μ : mM} {K : Option Value → mM → Prop} {f : Nat → Nat → Int32} {y q n : Nat} {T : Nat → Nat}
theorem byteI {i : Nat} (h : MTP f y T n) (hi : i < 2 ^ 31) : e_X12_byteAt (sI μ f) y i = bAt T n i := by
  have n320 := h.1
  unfold e_X12_byteAt bAt
  rw [iv_sI, iv_sI, h.2.2.1]
  have e : (nI n ≤ nI i) ↔ n ≤ i := nI_leI (by omega) hi
  by_cases c : i < n
  · rw [if_pos c, if_neg (fun w => by have := e.mp w; omega)]; exact h.2.2.2 i c
  · rw [if_neg c, if_pos (e.mpr (by omega))]
theorem hsI {i : Nat} (h : MTP f y T n) (hi : i < 2 ^ 31) : ¬ iv (sI μ f) y 6 ≤ nI i → i < 320 := fun c => by
  have n320 := h.1
  rw [iv_sI, h.2.2.1] at c
  have : ¬ n ≤ i := fun w => c (nI_le w hi)
  omega
theorem bAt_in {μ : mM} {i lo hi : Nat} {c1 c2 : Int64} (hb : ∀ i, i < n → T i ≤ 127) (h1 : c1.toInt = lo) (h2 : c2.toInt = hi) : e_X12_in μ (bAt T n i).toInt64 c1 c2 = 0 ↔ ¬ (i < n ∧ lo ≤ T i ∧ T i ≤ hi) := by
  rw [e_in0, i64, h1, h2]
  unfold bAt
  by_cases c : i < n
  · have := hb i c
    rw [if_pos c, nI_toInt (by omega)]
    omega
  · rw [if_neg c]
    have e : (-4 : Int32).toInt = -4 := by decide
    rw [e]
    omega
theorem bAt_eq {i c : Nat} {z : Int32} (hb : ∀ i, i < n → T i ≤ 127) (hz : z = nI c) (hc : c < 128) : bAt T n i = z ↔ (i < n ∧ T i = c) := by
  unfold bAt
  by_cases w : i < n
  · have := hb i w
    rw [if_pos w, hz, nI_eq (by omega) (by omega)]
    exact ⟨fun h => ⟨w, h⟩, fun h => h.2⟩
  · rw [if_neg w, hz]
    refine ⟨fun h => ?_, fun h => absurd h.1 w⟩
    have := (nI_eqU (a := 2 ^ 32 - 4) (b := c) (by decide) (by omega)).mp (Eq.trans (by decide) h)
    omega
theorem bAt_4 {i : Nat} (hb : ∀ i, i < n → T i ≤ 127) : bAt T n i = (-4 : Int32) ↔ ¬ i < n := by
  unfold bAt
  by_cases w : i < n
  · have := hb i w
    rw [if_pos w]
    refine ⟨fun h => ?_, fun h => absurd w h⟩
    have := (nI_eqU (a := T i) (b := 2 ^ 32 - 4) (by omega) (by decide)).mp (h.trans (by decide))
    omega
  · rw [if_neg w]; exact ⟨fun _ => w, fun _ => rfl⟩
theorem m_fails {c h : Nat} (hw : WF12 μ y) (h8 : f y 8 = 0) (h11 : f y 11 = nI h) (hK : ∀ g, g = u2 (u2 f y 8 (nI c)) y 9 (nI h) → MG f g y → K none (sI μ g)) : Ct X (Rm d) mX12_fails [.ref y, .int (nI c)] (sI μ f) K := by
  refine Ct_of rfl (Nat.le_of_ble_eq_true rfl) (b_X12_fails_0 (hw12_r0 := hw) (hK := fun z => absurd h8 z) (hK_2 := fun _ => ?_))
  rw [wi_sI, iv_sI, u2_k (by decide), h11, wi_sI]
  exact hK _ rfl ⟨fun z hz j => by rw [u2_x hz, u2_x hz], fun j hj => by rw [u2_k (by omega), u2_k (by omega)]⟩
/-- a fault at a good token -/
theorem m_failL {c : Nat} (hw : WF12 μ y) (hq : q ≤ n) (h : LV f y T n q) (hc : 1 ≤ c ∧ c ≤ 6) (hK : ∀ g, MG f g y → BR g y n (c, tA T n q) → K none (sI μ g)) : Ct X (Rm d) mX12_fails [.ref y, .int (nI c)] (sI μ f) K := by
  have b := tB_b (T := T) hq
  have tl := tK_le (T := T) (n := n) (q := q)
  refine m_fails hw h.1 h.2.2.1 (fun g e mg => hK g mg ?_)
  subst e
  refine ⟨by rw [u2_k (by decide), u2_s], hc, u2_s _ _ _ _, tA T n q, tB T n q, tK T n q, ?_, ?_, ?_, b.1, b.2, tl⟩
  · rw [u2_k (by decide), u2_k (by decide)]; exact h.2.2.1
  · rw [u2_k (by decide), u2_k (by decide)]; exact h.2.1
  · rw [u2_k (by decide), u2_k (by decide)]; exact h.2.2.2.1
theorem BR.n0 {e : Nat × Nat} (h : BR f y n e) : ¬ iv (sI μ f) y 8 = 0 := fun z => by
  rw [iv_sI, h.1, nI_z (by have := h.2.1; omega)] at z
  have := h.2.1
  omega
theorem m_failB {c : Int32} {e : Nat × Nat} (hw : WF12 μ y) (h : BR f y n e) (hK : K none (sI μ f)) : Ct X (Rm d) mX12_fails [.ref y, .int c] (sI μ f) K :=
  Ct_of rfl (Nat.le_of_ble_eq_true rfl) (b_X12_fails_0 (hw12_r0 := hw) (hK := fun _ => hK) (hK_2 := fun z => absurd z h.n0))
theorem m_readB {e : Nat × Nat} (hw : WF12 μ y) (h : BR f y n e) (hK : K none (sI μ f)) : Ct X (Rm (d + 1)) mX12_readsOn [.ref y] (sI μ f) K := by
  refine Ct_of rfl (Nat.le_of_ble_eq_true rfl) (b_X12_readsOn_0 (hw12_r0 := hw) (h := fun z => ?_) (hK := fun _ => hK))
  rw [iv_sI, h.1] at z
  have := h.2.1
  exact absurd z (nI_nle (by omega) (by omega))
theorem m_readS {s : Nat} (hw : WF12 μ y) (hT : MTP f y T n) (h8 : f y 8 = 0) (h10 : f y 10 = nI s) (hs : s ≤ n) (hK : ∀ g, MG f g y → RQ g y T n s → K none (sI μ g)) : Ct X (Rm (d + 1)) mX12_readsOn [.ref y] (sI μ f) K := by
  have n320 := hT.1
  have hb := hT.2.1
  have aB := tA_b (T := T) hs
  have nB := tN_b (T := T) hs
  have dB := tD_b (T := T) hs
  have bB := tB_b (T := T) hs
  -- the good end
  have E : ∀ g, MG f g y → LV g y T n s → G X (Rm (d + 1)) mX12_readsOn 285 [] [] (sI μ g) 0 0 K := fun g m l => b_X12_readsOn_285 (hK g m ⟨hs, Or.inr l⟩)
  -- a wrong one
  have W : ∀ g k, MG f g y → g y 8 = 0 → g y 11 = nI (tA T n s) → g y 10 = nI (tB T n s) → g y 12 = nI k → k ≤ 5 → tK T n s = 5 → ∀ {pc}, (∀ g', G X (Rm (d + 1)) mX12_readsOn 285 [] [] (sI μ g') 0 0 K → G X (Rm (d + 1)) mX12_readsOn pc [] [] (sI μ g') 0 0 K) → Ct X (Rm d) mX12_fails [.ref y, .int 1] (sI μ g) (fun r μ2 => G X (Rm (d + 1)) mX12_readsOn pc [] (r.toList ++ []) μ2 0 0 K) := fun g k m e8 e11 e10 e12 k5 t5 pc hp => by
    refine m_fails (c := 1) hw e8 e11 (fun g' eg mg => hp g' (b_X12_readsOn_285 (hK g' (m.tr mg) ⟨hs, Or.inl ⟨t5, ?_⟩⟩)))
    subst eg
    refine ⟨by rw [u2_k (by decide), u2_s], (by show 1 ≤ 1 ∧ 1 ≤ 6; decide), u2_s _ _ _ _, tA T n s, tB T n s, k, ?_, ?_, ?_, bB.1, bB.2, k5⟩
    · rw [u2_k (by decide), u2_k (by decide)]; exact e11
    · rw [u2_k (by decide), u2_k (by decide)]; exact e10
    · rw [u2_k (by decide), u2_k (by decide)]; exact e12
  have up : ∀ {g : Nat → Nat → Int32} {j : Nat} {v : Int32}, MG f g y → 8 ≤ j → j < 14 → MG f (u2 g y j v) y := fun m a b => ⟨fun z hz i => by rw [u2_x hz]; exact m.1 z hz i, fun i hi => by rw [u2_k (by omega)]; exact m.2 i hi⟩
  -- digits
  have L140 : ∀ x, x ≤ n → tA T n s ≤ x → spn (pDg T) n x = tD T n s → ∀ g v, MG f g y → g y 8 = 0 → g y 11 = nI (tA T n s) → g y 10 = nI x → g y 13 = nI v → v < 1000 → (x = tA T n s → v = 0) → (x = tA T n s + 1 → v = T (tA T n s) - 48) → (x = tA T n s + 2 → v = 10 * (T (tA T n s) - 48) + (T (tA T n s + 1) - 48)) → ¬ tA T n s < tN T n s → tA T n s < tD T n s → G X (Rm (d + 1)) mX12_readsOn 140 [(0, .ref y)] [] (sI μ g) 0 0 K := by
    have EX : ∀ x g v, x = tD T n s → MG f g y → g y 8 = 0 → g y 11 = nI (tA T n s) → g y 10 = nI x → g y 13 = nI v → (x = tA T n s + 1 → v = T (tA T n s) - 48) → (x = tA T n s + 2 → v = 10 * (T (tA T n s) - 48) + (T (tA T n s + 1) - 48)) → ¬ tA T n s < tN T n s → tA T n s < tD T n s → ¬ (x < n ∧ 48 ≤ T x ∧ T x ≤ 57) → G X (Rm (d + 1)) mX12_readsOn 140 [(0, .ref y)] [] (sI μ g) 0 0 K := fun x g v ex m e8 e11 e10 e13 v1 v2 q1 q2 nd => by
      have hTg := hT.mg m
      have ei : e_X12_in (sI μ g) ((e_X12_byteAt (sI μ g) y x).toInt64) 48 57 = 0 := by
        rw [byteI hTg (by omega)]; exact (bAt_in (lo := 48) (hi := 57) hb (by decide) (by decide)).mpr nd
      have ed : iv (wi (sI μ g) y 12 2) y 10 - iv (wi (sI μ g) y 12 2) y 11 = nI (tD T n s - tA T n s) := by
        rw [wi_sI, iv_sI, iv_sI, u2_k (by decide), u2_k (by decide), e10, e11, ex]; exact pk_sub (by omega)
      have eB : tB T n s = tD T n s := by unfold tB; rw [if_neg q1, if_pos q2]
      refine b_X12_readsOn_140 (j0 := x) (hw12_r0 := hw) (hi_j0 := e10) (hs := hsI hTg (by omega)) (h := fun _ c => ?_) (hc_fails := fun _ c => ?_) (h_2 := fun c => absurd ei c) (hi_j0_2 := fun c => absurd ei c) (hs_2 := fun c => absurd ei c) (h_3 := fun c => absurd ei c)
      · rw [ed, show (2 : Int32) = nI 2 from rfl, nI_leI (by omega) (by decide)] at c
        have tk : tK T n s = 2 := by unfold tK; rw [if_neg q1, if_pos q2, if_pos c]
        rw [wi_sI]
        refine E _ (up m (by decide) (by decide)) ⟨by rw [u2_k (by decide)]; exact e8, by rw [u2_k (by decide), e10, ex, eB], by rw [u2_k (by decide)]; exact e11, by rw [u2_s, tk]; rfl, fun _ => ?_, by omega⟩
        rw [u2_k (by decide), e13]
        unfold num
        rw [eB]
        by_cases w : tD T n s - tA T n s = 1
        · rw [if_pos w, v1 (by omega)]
        · rw [if_neg w, v2 (by omega)]
      · rw [ed, show (2 : Int32) = nI 2 from rfl, nI_leI (by omega) (by decide)] at c
        have tk : tK T n s = 5 := by unfold tK; rw [if_neg q1, if_pos q2, if_neg c]
        rw [wi_sI]
        exact W _ 2 (up m (by decide) (by decide)) (by rw [u2_k (by decide)]; exact e8) (by rw [u2_k (by decide)]; exact e11) (by rw [u2_k (by decide), e10, ex, eB]) (by rw [u2_s]; rfl) (by decide) tk (fun g' h => b_X12_readsOn_240 h)
    refine dn n ?_ ?_
    · intro ha hx g v m e8 e11 e10 e13 v0 h0 v1 v2 q1 q2
      rw [spn_n (Nat.le_refl _)] at hx
      exact EX n g v hx m e8 e11 e10 e13 v1 v2 q1 q2 (by omega)
    · intro x hx ih ha hsp g v m e8 e11 e10 e13 v0 h0 v1 v2 q1 q2
      by_cases dg : 48 ≤ T x ∧ T x ≤ 57
      · have hTg := hT.mg m
        have ei : ¬ e_X12_in (sI μ g) ((e_X12_byteAt (sI μ g) y x).toInt64) 48 57 = 0 := fun c => by
          rw [byteI hTg (by omega)] at c
          exact (bAt_in (lo := 48) (hi := 57) hb (by decide) (by decide)).mp c ⟨hx, dg⟩
        have ed : iv (sI μ g) y 10 - iv (sI μ g) y 11 = nI (x - tA T n s) := by rw [iv_sI, iv_sI, e10, e11]; exact pk_sub ha
        have l2 : ((2 : Int32) ≤ iv (sI μ g) y 10 - iv (sI μ g) y 11) ↔ 2 ≤ x - tA T n s := by rw [ed]; exact nI_leI (a := 2) (by decide) (by omega)
        have sp : spn (pDg T) n (x + 1) = tD T n s := by rw [← hsp, spn_s hx (by unfold pDg; rw [decide_eq_true_iff]; exact dg)]
        have ST : ∀ v', v' < 1000 → (x + 1 = tA T n s + 1 → v' = T (tA T n s) - 48) → (x + 1 = tA T n s + 2 → v' = 10 * (T (tA T n s) - 48) + (T (tA T n s + 1) - 48)) → G X (Rm (d + 1)) mX12_readsOn 201 [(0, .ref y)] [.int (nI v'), .ref y] (sI μ g) 0 0 K := fun v' hv' w1 w2 => by
          refine b_X12_readsOn_201 hw hw ?_
          rw [wi_sI, iv_sI, u2_k (by decide), e10, nI_1, wi_sI]
          exact ih (by omega) sp _ v' (up (up m (by decide) (by decide)) (by decide) (by decide)) (by rw [u2_k (by decide), u2_k (by decide)]; exact e8) (by rw [u2_k (by decide), u2_k (by decide)]; exact e11) (u2_s _ _ _ _) (by rw [u2_k (by decide), u2_s]) hv' (fun w => by omega) w1 w2 q1 q2
        refine b_X12_readsOn_140 (j0 := x) (hw12_r0 := hw) (hi_j0 := e10) (hs := hsI hTg (by omega)) (h := fun c => absurd c ei) (hc_fails := fun c => absurd c ei) (h_2 := fun _ c => ?_) (hi_j0_2 := fun _ _ => e10) (hs_2 := fun _ _ => hsI hTg (by omega)) (h_3 := fun _ c => ?_)
        · rw [l2] at c
          rw [iv_sI, e13]
          exact ST v v0 (fun w => by omega) (fun w => by omega)
        · rw [l2] at c
          have eb : e_X12_byteAt (sI μ g) y x = nI (T x) := by rw [byteI hTg (by omega)]; exact if_pos hx
          rw [iv_sI, e13, eb, show (10 : Int32) = nI 10 from rfl, pk_mul, nI_add, show (48 : Int32) = nI 48 from rfl, pk_sub (by omega)]
          by_cases w : x = tA T n s
          · have e0 := h0 w
            exact ST _ (by omega) (fun _ => by rw [e0, w]; omega) (fun w2 => by omega)
          · have w1 : x = tA T n s + 1 := by omega
            have e1 := v1 w1
            have s0 := spn_in (P := pDg T) (n := n) (tA T n s) aB.2 (tA T n s) (Nat.le_refl _) q2
            unfold pDg at s0
            rw [decide_eq_true_iff] at s0
            have dg1 : 48 ≤ T (tA T n s + 1) := by rw [← w1]; exact dg.1
            exact ST _ (by omega) (fun w2 => by omega) (fun _ => by rw [e1, w1]; omega)
      · rw [spn_x hx (by unfold pDg; rw [decide_eq_true_iff]; exact dg)] at hsp
        exact EX x g v hsp m e8 e11 e10 e13 v1 v2 q1 q2 (fun w => dg w.2)
  -- letters
  have L84 : ∀ x, x ≤ n → tA T n s ≤ x → spn (pLt T) n x = tN T n s → ∀ g, MG f g y → g y 8 = 0 → g y 11 = nI (tA T n s) → g y 10 = nI x → tA T n s < tN T n s → G X (Rm (d + 1)) mX12_readsOn 84 [(0, .ref y)] [] (sI μ g) 0 0 K := by
    have EX : ∀ x g, x = tN T n s → MG f g y → g y 8 = 0 → g y 11 = nI (tA T n s) → g y 10 = nI x → tA T n s < tN T n s → ¬ (x < n ∧ 97 ≤ T x ∧ T x ≤ 122) → G X (Rm (d + 1)) mX12_readsOn 84 [(0, .ref y)] [] (sI μ g) 0 0 K := fun x g ex m e8 e11 e10 q1 nd => by
      have hTg := hT.mg m
      have ei : e_X12_in (sI μ g) ((e_X12_byteAt (sI μ g) y x).toInt64) 97 122 = 0 := by
        rw [byteI hTg (by omega)]; exact (bAt_in (lo := 97) (hi := 122) hb (by decide) (by decide)).mpr nd
      have tk : tK T n s = 1 := by unfold tK; rw [if_pos q1]
      have eB : tB T n s = tN T n s := by unfold tB; rw [if_pos q1]
      refine b_X12_readsOn_84 (j0 := x) (hw12_r0 := hw) (hi_j0 := e10) (hs := hsI hTg (by omega)) (h := fun _ => ?_) (h_2 := fun c => absurd ei c)
      rw [wi_sI]
      exact E _ (up m (by decide) (by decide)) ⟨by rw [u2_k (by decide)]; exact e8, by rw [u2_k (by decide), e10, ex, eB], by rw [u2_k (by decide)]; exact e11, by rw [u2_s, tk]; rfl, fun c => by omega, by omega⟩
    refine dn n ?_ ?_
    · intro ha hx g m e8 e11 e10 q1
      rw [spn_n (Nat.le_refl _)] at hx
      exact EX n g hx m e8 e11 e10 q1 (by omega)
    · intro x hx ih ha hsp g m e8 e11 e10 q1
      by_cases dg : 97 ≤ T x ∧ T x ≤ 122
      · have hTg := hT.mg m
        have ei : ¬ e_X12_in (sI μ g) ((e_X12_byteAt (sI μ g) y x).toInt64) 97 122 = 0 := fun c => by
          rw [byteI hTg (by omega)] at c
          exact (bAt_in (lo := 97) (hi := 122) hb (by decide) (by decide)).mp c ⟨hx, dg⟩
        have sp : spn (pLt T) n (x + 1) = tN T n s := by rw [← hsp, spn_s hx (by unfold pLt; rw [decide_eq_true_iff]; exact dg)]
        refine b_X12_readsOn_84 (j0 := x) (hw12_r0 := hw) (hi_j0 := e10) (hs := hsI hTg (by omega)) (h := fun c => absurd c ei) (h_2 := fun _ => ?_)
        rw [wi_sI, iv_sI, e10, nI_1]
        exact ih (by omega) sp _ (up m (by decide) (by decide)) (by rw [u2_k (by decide)]; exact e8) (by rw [u2_k (by decide)]; exact e11) (u2_s _ _ _ _) q1
      · rw [spn_x hx (by unfold pLt; rw [decide_eq_true_iff]; exact dg)] at hsp
        exact EX x g hsp m e8 e11 e10 q1 (fun w => dg w.2)
  -- signs
  have L255 : ∀ g k, MG f g y → g y 8 = 0 → g y 11 = nI (tA T n s) → g y 10 = nI (tA T n s) → tA T n s < n → ¬ tA T n s < tN T n s → ¬ tA T n s < tD T n s → k = (if T (tA T n s) = 58 then 4 else 3) → G X (Rm (d + 1)) mX12_readsOn 255 [(0, .ref y), (1, .int (nI (T (tA T n s))))] [.int (nI k), .ref y] (sI μ g) 0 0 K := fun g k m e8 e11 e10 an q1 q2 ek => by
    have bx := hb _ an
    have eB : tB T n s = tA T n s + 1 := by unfold tB; rw [if_neg q1, if_neg q2, if_neg (by omega)]
    have tk : tK T n s = if T (tA T n s) = 59 then 3 else if T (tA T n s) = 58 then 4 else 5 := by unfold tK; rw [if_neg q1, if_neg q2, if_neg (by omega)]
    have z59 : (nI (T (tA T n s)) = (59 : Int32)) ↔ T (tA T n s) = 59 := nI_eq (b := 59) (by omega) (by decide)
    have z58 : (nI (T (tA T n s)) = (58 : Int32)) ↔ T (tA T n s) = 58 := nI_eq (b := 58) (by omega) (by decide)
    have m2 : MG f (u2 (u2 g y 12 (nI k)) y 10 (nI (tA T n s + 1))) y := up (up m (by decide) (by decide)) (by decide) (by decide)
    have f8 : u2 (u2 g y 12 (nI k)) y 10 (nI (tA T n s + 1)) y 8 = 0 := by rw [u2_k (by decide), u2_k (by decide)]; exact e8
    have f11 : u2 (u2 g y 12 (nI k)) y 10 (nI (tA T n s + 1)) y 11 = nI (tA T n s) := by rw [u2_k (by decide), u2_k (by decide)]; exact e11
    have f10 : u2 (u2 g y 12 (nI k)) y 10 (nI (tA T n s + 1)) y 10 = nI (tB T n s) := by rw [u2_s, eB]
    have f12 : u2 (u2 g y 12 (nI k)) y 10 (nI (tA T n s + 1)) y 12 = nI k := by rw [u2_k (by decide), u2_s]
    refine b_X12_readsOn_255 (hw12_q0 := hw) (hw12_r0 := hw) (h := fun c => ?_) (h_2 := fun c1 c2 => ?_) (hc_fails := fun c1 c2 => ?_)
    · rw [z59] at c
      rw [if_pos c] at tk
      rw [if_neg (by omega)] at ek
      rw [wi_sI, iv_sI, u2_k (by decide), e10, nI_1, wi_sI]
      exact E _ m2 ⟨f8, f10, f11, by rw [f12, tk, ek], fun w => by omega, by omega⟩
    · rw [z59] at c1
      rw [z58] at c2
      rw [if_neg c1, if_pos c2] at tk
      rw [if_pos c2] at ek
      rw [wi_sI, iv_sI, u2_k (by decide), e10, nI_1, wi_sI]
      exact E _ m2 ⟨f8, f10, f11, by rw [f12, tk, ek], fun w => by omega, by omega⟩
    · rw [z59] at c1
      rw [z58] at c2
      rw [if_neg c1, if_neg c2] at tk
      rw [wi_sI, iv_sI, u2_k (by decide), e10, nI_1, wi_sI]
      exact W _ k m2 f8 f11 f10 f12 (by rw [ek]; split <;> decide) tk (fun g' h => h)
  -- spaces
  have L8 : ∀ x, x ≤ n → spn (pSp T) n x = tA T n s → ∀ g, MG f g y → g y 8 = 0 → g y 10 = nI x → G X (Rm (d + 1)) mX12_readsOn 8 [(0, .ref y)] [] (sI μ g) 0 0 K := by
    have EX : ∀ x g, x = tA T n s → x ≤ n → MG f g y → g y 8 = 0 → g y 10 = nI x → ¬ (x < n ∧ T x = 32) → G X (Rm (d + 1)) mX12_readsOn 8 [(0, .ref y)] [] (sI μ g) 0 0 K := fun x g ex xn m e8 e10 nd => by
      have hTg := hT.mg m
      have ei : ¬ e_X12_byteAt (sI μ g) y x = (32 : Int32) := fun c => by
        rw [byteI hTg (by omega)] at c
        exact nd ((bAt_eq (c := 32) hb rfl (by decide)).mp c)
      have m1 : MG f (u2 g y 11 (nI x)) y := up m (by decide) (by decide)
      have m2 : MG f (u2 (u2 g y 11 (nI x)) y 13 0) y := up m1 (by decide) (by decide)
      have hT1 := hT.mg m1
      have eb : e_X12_byteAt (wi (sI μ g) y 11 (iv (sI μ g) y 10)) y x = bAt T n x := by rw [iv_sI, e10, wi_sI, byteI hT1 (by omega)]
      have f8 : u2 (u2 g y 11 (nI x)) y 13 0 y 8 = 0 := by rw [u2_k (by decide), u2_k (by decide)]; exact e8
      have f10 : u2 (u2 g y 11 (nI x)) y 13 0 y 10 = nI x := by rw [u2_k (by decide), u2_k (by decide)]; exact e10
      have f11 : u2 (u2 g y 11 (nI x)) y 13 0 y 11 = nI x := by rw [u2_k (by decide), u2_s]
      have f13 : u2 (u2 g y 11 (nI x)) y 13 0 y 13 = nI 0 := u2_s _ _ _ _
      have in1 : ∀ ν, e_X12_in ν (bAt T n x).toInt64 97 122 = 0 ↔ ¬ (x < n ∧ 97 ≤ T x ∧ T x ≤ 122) := fun ν => bAt_in (lo := 97) (hi := 122) hb (by decide) (by decide)
      have in2 : ∀ ν, e_X12_in ν (bAt T n x).toInt64 48 57 = 0 ↔ ¬ (x < n ∧ 48 ≤ T x ∧ T x ≤ 57) := fun ν => bAt_in (lo := 48) (hi := 57) hb (by decide) (by decide)
      have nL : ¬ (x < n ∧ 97 ≤ T x ∧ T x ≤ 122) → tN T n s = tA T n s := fun c => by
        unfold tN
        rw [← ex]
        by_cases w : x < n
        · exact spn_x w (by unfold pLt; rw [decide_eq_true_iff]; exact fun v => c ⟨w, v⟩)
        · exact spn_n (by omega)
      have nD : ¬ (x < n ∧ 48 ≤ T x ∧ T x ≤ 57) → tD T n s = tA T n s := fun c => by
        unfold tD
        rw [← ex]
        by_cases w : x < n
        · exact spn_x w (by unfold pDg; rw [decide_eq_true_iff]; exact fun v => c ⟨w, v⟩)
        · exact spn_n (by omega)
      have yL : (x < n ∧ 97 ≤ T x ∧ T x ≤ 122) → tA T n s < tN T n s := fun c => by
        have := (spn_b (P := pLt T) (n := n) (x + 1) (by omega)).1
        unfold tN
        rw [← ex, spn_s c.1 (by unfold pLt; rw [decide_eq_true_iff]; exact c.2)]
        omega
      have yD : (x < n ∧ 48 ≤ T x ∧ T x ≤ 57) → tA T n s < tD T n s := fun c => by
        have := (spn_b (P := pDg T) (n := n) (x + 1) (by omega)).1
        unfold tD
        rw [← ex, spn_s c.1 (by unfold pDg; rw [decide_eq_true_iff]; exact c.2)]
        omega
      refine b_X12_readsOn_8 (j0 := x) (j1 := x) (hw12_r0 := hw) (hi_j0 := e10) (hs := hsI hTg (by omega)) (hi_j1 := fun _ => ?_) (hs_2 := fun _ => ?_) (h := fun _ c1 c2 c3 c4 => ?_) (h_2 := fun _ c1 c2 c3 c4 => ?_) (h_3 := fun _ c1 c2 c3 => ?_) (h_4 := fun _ c1 c2 => ?_) (h_5 := fun _ c1 => ?_) (h_6 := fun c => absurd c ei)
      · rw [iv_sI, e10, wi_sI, iv_sI, u2_k (by decide)]; exact e10
      · rw [iv_sI, e10, wi_sI]; exact hsI hT1 (by omega)
      · rw [eb] at c1 c2 c3 c4 ⊢
        rw [bAt_4 hb, Decidable.not_not] at c1
        rw [in1] at c2
        rw [in2] at c3
        rw [bAt_eq (c := 58) (z := (58 : Int32)) hb rfl (by decide)] at c4
        rw [iv_sI, e10, wi_sI, wi_sI, show bAt T n x = nI (T x) from if_pos c1, ex]
        rw [ex] at m2 f8 f10 f11 c1 c4 nL nD c2 c3
        have e1 := nL c2
        have e2 := nD c3
        exact L255 _ 3 m2 f8 f11 f10 c1 (by omega) (by omega) (by rw [if_neg (fun w => c4 ⟨c1, w⟩)])
      · rw [eb] at c1 c2 c3 c4 ⊢
        rw [bAt_4 hb, Decidable.not_not] at c1
        rw [in1] at c2
        rw [in2] at c3
        rw [bAt_eq (c := 58) (z := (58 : Int32)) hb rfl (by decide)] at c4
        rw [iv_sI, e10, wi_sI, wi_sI, show bAt T n x = nI (T x) from if_pos c1, ex]
        rw [ex] at m2 f8 f10 f11 c1 c4 nL nD c2 c3
        have e1 := nL c2
        have e2 := nD c3
        exact L255 _ 4 m2 f8 f11 f10 c1 (by omega) (by omega) (by rw [if_pos c4.2])
      · rw [eb] at c1 c2 c3
        rw [in1] at c2
        rw [in2, Decidable.not_not] at c3
        rw [iv_sI, e10, wi_sI, wi_sI]
        have e1 := nL c2
        have e2 := yD c3
        exact L140 x xn (by omega) (by rw [ex]; rfl) _ 0 m2 f8 (by rw [f11, ex]) f10 f13 (by decide) (fun _ => rfl) (fun w => by omega) (fun w => by omega) (by omega) e2
      · rw [eb] at c1 c2
        rw [in1, Decidable.not_not] at c2
        rw [iv_sI, e10, wi_sI, wi_sI]
        exact L84 x xn (by omega) (by rw [ex]; rfl) _ m2 f8 (by rw [f11, ex]) f10 (yL c2)
      · rw [eb, bAt_4 hb] at c1
        rw [iv_sI, e10, wi_sI, wi_sI, wi_sI]
        have e1 := nL (fun w => c1 w.1)
        have e2 := nD (fun w => c1 w.1)
        have tk : tK T n s = 0 := by unfold tK; rw [if_neg (by omega), if_neg (by omega), if_pos (by omega)]
        have eB : tB T n s = tA T n s := by unfold tB; rw [if_neg (by omega), if_neg (by omega), if_pos (by omega)]
        exact E _ (up m2 (by decide) (by decide)) ⟨by rw [u2_k (by decide)]; exact f8, by rw [u2_k (by decide), f10, eB, ex], by rw [u2_k (by decide), f11, ex], by rw [u2_s, tk]; rfl, fun w => by omega, by omega⟩
    refine dn n ?_ ?_
    · intro hx g m e8 e10
      rw [spn_n (Nat.le_refl _)] at hx
      exact EX n g hx (Nat.le_refl _) m e8 e10 (by omega)
    · intro x hx ih hsp g m e8 e10
      by_cases sp : T x = 32
      · have hTg := hT.mg m
        have ei : e_X12_byteAt (sI μ g) y x = (32 : Int32) := by
          rw [byteI hTg (by omega)]
          exact (bAt_eq (c := 32) hb rfl (by decide)).mpr ⟨hx, sp⟩
        refine b_X12_readsOn_8 (j0 := x) (j1 := 0) (hw12_r0 := hw) (hi_j0 := e10) (hs := hsI hTg (by omega)) (hi_j1 := fun c => absurd ei c) (hs_2 := fun c => absurd ei c) (h := fun c => absurd ei c) (h_2 := fun c => absurd ei c) (h_3 := fun c => absurd ei c) (h_4 := fun c => absurd ei c) (h_5 := fun c => absurd ei c) (h_6 := fun _ => ?_)
        rw [wi_sI, iv_sI, e10, nI_1]
        exact ih (by rw [← hsp, spn_s hx (by unfold pSp; rw [decide_eq_true_iff]; exact sp)]) _ (up m (by decide) (by decide)) (by rw [u2_k (by decide)]; exact e8) (u2_s _ _ _ _)
      · rw [spn_x hx (by unfold pSp; rw [decide_eq_true_iff]; exact sp)] at hsp
        exact EX x g hsp (by omega) m e8 e10 (fun w => sp w.2)
  refine Ct_of rfl (Nat.le_of_ble_eq_true rfl) (b_X12_readsOn_0 (hw12_r0 := hw) (h := fun _ => ?_) (hK := fun c => ?_))
  · exact L8 s hs rfl f (MG.rf _ _) h8 h10
  · exact absurd (by rw [iv_sI, h8]; exact le_r _) c
/-- on from a token, good or wrong -/
theorem m_read (hw : WF12 μ y) (hT : MTP f y T n) (h : LV f y T n q) (hq : q ≤ n) (hK : ∀ g, MG f g y → RQ g y T n (tB T n q) → K none (sI μ g)) : Ct X (Rm (d + 1)) mX12_readsOn [.ref y] (sI μ f) K :=
  m_readS hw hT h.1 h.2.1 (tB_b (T := T) hq).2 hK
end P63
