/-- how many ways node i gives -/
def wn (p : Nat → Nat) (v i : Nat) : Nat := if p (6 + 6 * v + i) ≠ 0 ∧ p (6 + 6 * v + i) = hld p v then (if p i = 1 ∧ hld p v = 1 then 2 else 1) else 0
/-- how many ways there are ahead of node i -/
def wc (p : Nat → Nat) (v : Nat) : Nat → Nat
  | 0 => if hld p v = 2 then 0 else 1
  | i + 1 => wc p v i + wn p v i
/-- the way k among those of the first nodes: a node, 6 + a node for beside it, 12 for nowhere, 13 for none -/
def wf (p : Nat → Nat) (v k : Nat) : Nat → Nat
  | 0 => if hld p v ≠ 2 ∧ k = 0 then 12 else 13
  | i + 1 => if wc p v i ≤ k ∧ k < wc p v (i + 1) then (if k = wc p v i then i else 6 + i) else wf p v k i
theorem wn_le (p : Nat → Nat) (v i : Nat) : wn p v i ≤ 2 := by
  unfold wn
  split
  · split <;> omega
  · omega
theorem wc_le (p : Nat → Nat) (v : Nat) : ∀ i, wc p v i ≤ 1 + 2 * i
  | 0 => by unfold wc; split <;> omega
  | i + 1 => by
    have := wc_le p v i
    have := wn_le p v i
    show wc p v i + wn p v i ≤ _
    omega
theorem wf_13 {p : Nat → Nat} {v k : Nat} : ∀ n, n ≤ 6 → (wf p v k n = 13 ↔ wc p v n ≤ k)
  | 0, _ => by
    show (if hld p v ≠ 2 ∧ k = 0 then 12 else 13) = 13 ↔ (if hld p v = 2 then 0 else 1) ≤ k
    by_cases h : hld p v = 2
    · rw [if_neg (by omega), if_pos h]; omega
    · rw [if_neg h]
      by_cases q : k = 0
      · rw [if_pos ⟨h, q⟩]; omega
      · rw [if_neg (by omega)]; omega
  | n + 1, hn => by
    have ih := wf_13 (p := p) (v := v) (k := k) n (by omega)
    have e : wc p v (n + 1) = wc p v n + wn p v n := rfl
    show (if wc p v n ≤ k ∧ k < wc p v (n + 1) then (if k = wc p v n then n else 6 + n) else wf p v k n) = 13 ↔ _
    by_cases h : wc p v n ≤ k ∧ k < wc p v (n + 1)
    · rw [if_pos h]
      split <;> omega
    · rw [if_neg h, ih]; omega
theorem wf_lt {p : Nat → Nat} {v k : Nat} : ∀ n, (wf p v k n < n ∨ (6 ≤ wf p v k n ∧ wf p v k n < 6 + n)) ∨ wf p v k n = 12 ∨ wf p v k n = 13
  | 0 => by
    show ((if hld p v ≠ 2 ∧ k = 0 then 12 else 13) < 0 ∨ _) ∨ (if hld p v ≠ 2 ∧ k = 0 then 12 else 13) = 12 ∨ (if hld p v ≠ 2 ∧ k = 0 then 12 else 13) = 13
    split <;> omega
  | n + 1 => by
    have ih := wf_lt (p := p) (v := v) (k := k) n
    show ((if wc p v n ≤ k ∧ k < wc p v (n + 1) then (if k = wc p v n then n else 6 + n) else wf p v k n) < n + 1 ∨ (6 ≤ (if wc p v n ≤ k ∧ k < wc p v (n + 1) then (if k = wc p v n then n else 6 + n) else wf p v k n) ∧ (if wc p v n ≤ k ∧ k < wc p v (n + 1) then (if k = wc p v n then n else 6 + n) else wf p v k n) < 6 + (n + 1))) ∨ (if wc p v n ≤ k ∧ k < wc p v (n + 1) then (if k = wc p v n then n else 6 + n) else wf p v k n) = 12 ∨ (if wc p v n ≤ k ∧ k < wc p v (n + 1) then (if k = wc p v n then n else 6 + n) else wf p v k n) = 13
    by_cases h : wc p v n ≤ k ∧ k < wc p v (n + 1)
    · rw [if_pos h]
      split <;> omega
    · rw [if_neg h]; omega
/-- once found, it stays -/
theorem wf_in {p : Nat → Nat} {v k i : Nat} (h : k < wc p v i) : wf p v k (i + 1) = wf p v k i := if_neg (by omega)
theorem wf_no {p : Nat → Nat} {v k i : Nat} (h : wn p v i = 0) : wf p v k (i + 1) = wf p v k i := if_neg (by have : wc p v (i + 1) = wc p v i + wn p v i := rfl; omega)
def wnd (c : Nat) : Nat := if c < 6 then c else if c < 12 then c - 6 else 2 ^ 32 - 1
def wbs (c : Nat) : Nat := if 6 ≤ c ∧ c < 12 then 1 else 0
def twS (n i r : Nat) : Nat := if r = n then i else r
/-- a node as i comes behind -/
def twin (p : Nat → Nat) (i : Nat) : Nat → Nat := pg (p 60 + 1) (upd1 p (p 60) 1) (fun u k => p (6 + 6 * u + twS (p 60) i k)) (fun r k => p (24 + 6 * twS (p 60) i r + twS (p 60) i k))
def aloneR (p : Nat → Nat) (v i : Nat) : Nat → Nat := setR p v (fun j => if j = i then 2 else 0)
/-- the page behind a split, by the way -/
def splP (p : Nat → Nat) (v c : Nat) : Nat → Nat := if c < 6 then upd1 (aloneR p v c) c 0 else if c < 12 then upd1 (aloneR (twin p (c - 6)) v (c - 6)) (c - 6) 0 else setR p v (fun _ => 0)
def splA (p : Nat → Nat) (v k : Nat) : Int32 := if wf p v k (p 60) = 13 ∨ 2 ^ 31 ≤ k then -1 else if 6 ≤ wf p v k (p 60) ∧ wf p v k (p 60) < 12 ∧ p 60 = 6 then -3 else nI (splP p v (wf p v k (p 60)) 60)
def splQ (p : Nat → Nat) (v k : Nat) : Nat → Nat := if wf p v k (p 60) = 13 ∨ 2 ^ 31 ≤ k then p else if 6 ≤ wf p v k (p 60) ∧ wf p v k (p 60) < 12 ∧ p 60 = 6 then p else splP p v (wf p v k (p 60))
theorem okP_twin {p : Nat → Nat} {i : Nat} (hp : okP p) (hn : p 60 < 6) (hi : i < p 60) : okP (twin p i) := by
  have tl : ∀ r, r < 6 → twS (p 60) i r < 6 := fun r hr => by unfold twS; split <;> omega
  refine okP_pg (by omega) (fun k hk => ?_) (fun u k hu hk => hp.2.2.1 u _ hu (tl k hk)) (fun r k hr hk => hp.2.2.2.1 _ _ (tl r hr) (tl k hk)) (fun k h1 h2 => ?_) (fun u k hu h1 h2 => ?_) (fun r k hr hk h => ?_)
  · unfold upd1
    split
    · omega
    · exact hp.2.1 k hk
  · rw [upd1_n (by omega)]; exact (hp.2.2.2.2 k (by omega) h2).1
  · unfold twS
    rw [if_neg (by omega)]
    exact (hp.2.2.2.2 k (by omega) h2).2.1 u hu
  · rcases h with h | h
    · have e : twS (p 60) i r = r := if_neg (by omega)
      rw [e]
      exact ((hp.2.2.2.2 r (by omega) hr).2.2 _ (tl k hk)).1
    · have e : twS (p 60) i k = k := if_neg (by omega)
      rw [e]
      exact ((hp.2.2.2.2 k (by omega) hk).2.2 _ (tl r hr)).2
theorem okP_alone {p : Nat → Nat} {v i : Nat} (hp : okP p) (hv : v < 3) (hi : i < p 60) : okP (upd1 (aloneR p v i) i 0) := by
  have h6 := hp.1
  exact okP_z (okP_set hp hv (fun j _ => by (try dsimp only); split <;> omega) (fun j h1 _ => by (try dsimp only); rw [if_neg (by omega)])) (by omega)
theorem okP_spl {p : Nat → Nat} {v k : Nat} (hp : okP p) (hv : v < 3) : okP (splQ p v k) := by
  have h6 := hp.1
  have hl := wf_lt (p := p) (v := v) (k := k) (p 60)
  unfold splQ
  split
  · exact hp
  · split
    · exact hp
    · unfold splP
      split
      · exact okP_alone hp hv (by omega)
      · split
        · exact okP_alone (okP_twin hp (by omega) (by omega)) hv (by show _ < p 60 + 1; omega)
        · exact okP_set hp hv (fun _ _ => by omega) (fun _ _ _ => rfl)
section P38
variable {X : cX} {d : Nat} {μ : mM} {K : Option Value → mM → Prop} {f : Nat → Nat → Int32} {a b y v w : Nat} {p : Nat → Nat}
/-- the class's splitting at b: the way so far, those met, the one sought -/
def WS (f : Nat → Nat → Int32) (b c m k : Nat) : Prop := f b 0 = nI (wnd c) ∧ f b 1 = nI (wbs c) ∧ f b 2 = nI m ∧ f b 3 = nI k
theorem c_meet {c m k c1 : Nat} (hw : WF8 μ b) (hs : WS f b c m k) (hm : m < 2 ^ 30) (hk : k < 2 ^ 32) (hK : ∀ f', (∀ z, z ≠ b → ∀ j, f' z j = f z j) → WS f' b (if m = k then c1 else c) (m + 1) k → K none (sI μ f')) : Ct X (Rm d) mX8_meet [.ref b, .int (nI (wnd c1)), .int (nI (wbs c1))] (sI μ f) K := by
  have e2 : iv (sI μ f) b 2 = nI m := hs.2.2.1
  have e3 : iv (sI μ f) b 3 = nI k := hs.2.2.2
  have eq : (iv (sI μ f) b 2 = iv (sI μ f) b 3) ↔ m = k := by rw [e2, e3]; exact nI_eqU (by omega) hk
  refine Ct_of rfl (Nat.le_of_ble_eq_true rfl) (b_X8_meet_0 (hw8_r0 := hw) (h := fun c2 => b_X8_meet_21 hw ?_) (hz := fun _ => b01 (by unfold wbs; split <;> omega)) (h_2 := fun c2 => b_X8_meet_21 hw ?_))
  · rw [e2, nI_1, wi_sI]
    refine hK _ (fun z hz j => u2_x hz) ?_
    rw [if_neg (fun z => c2 (eq.mpr z))]
    exact ⟨by rw [u2_k (by omega)]; exact hs.1, by rw [u2_k (by omega)]; exact hs.2.1, u2_s _ _ _ _, by rw [u2_k (by omega)]; exact hs.2.2.2⟩
  · rw [wi_sI, wi_sI, iv_sI, u2_k (by omega), u2_k (by omega), hs.2.2.1, nI_1, wi_sI]
    refine hK _ (fun z hz j => by rw [u2_x hz, u2_x hz, u2_x hz]) ?_
    rw [if_pos (eq.mp c2)]
    exact ⟨by rw [u2_k (by omega), u2_k (by omega), u2_s], by rw [u2_k (by omega), u2_s], u2_s _ _ _ _, by rw [u2_k (by omega), u2_k (by omega), u2_k (by omega)]; exact hs.2.2.2⟩
theorem c_through {k : Nat} (hwa : WF5 μ a) (hwb : WF8 μ b) (hab : a + 24 ≤ b ∨ b + 1 ≤ a) (hs : Sh f a p) (hp : okP p) (hv : v < 3) (hk : k < 2 ^ 32) (hK : ∀ f', (∀ z, z ≠ b → ∀ j, f' z j = f z j) → WS f' b (wf p v k (p 60)) (wc p v (p 60)) k → K none (sI μ f')) : Ct X (Rm (d + 2)) mX8_goThrough [.ref b, .ref a, .int (nI v), .int (nI k)] (sI μ f) K := by
  have h6 := hp.1
  have hl := hld_le hp hv
  have sg : ∀ g, (∀ z, z ≠ b → ∀ j, g z j = f z j) → Sh g a p := fun g h => hs.fr (fun z h1 h2 j => h z (by omega) j)
  have H : ∀ i, i ≤ p 60 → ∀ g, (∀ z, z ≠ b → ∀ j, g z j = f z j) → WS g b (wf p v k i) (wc p v i) k → G X (Rm (d + 2)) mX8_goThrough 42 [(0, .ref b), (1, .ref a), (2, .int (nI v)), (4, .int (nI (hld p v))), (5, .int (nI i))] [] (sI μ g) 0 0 K := by
    refine dn (p 60) ?_ ?_
    · intro g q1 q2
      have s1 := (sg g q1).1
      refine b_X8_goThrough_42 (hw5_r1 := hwa) (hK := fun _ => hK g q1 q2) (hb := ?_) (hb_2 := ?_) (h := ?_) (hb_3 := ?_) (hb_4 := ?_) (h_2 := ?_) (hw8_r0 := hwb) (hc_meet := ?_) <;> (intro c; rw [iv_sI, s1] at c; exact absurd (le_r _) c)
    · intro i hi ih g q1 q2
      have s1 := sg g q1
      have wl := wc_le p v i
      have e1 : iv (sI μ g) (a + 3 + v) i = nI (p (6 + 6 * v + i)) := s1.2.2.1 v i hv (by omega)
      have l1 := hp.2.2.1 v i hv (by omega)
      have ew : wc p v (i + 1) = wc p v i + wn p v i := rfl
      have Z : wn p v i = 0 → G X (Rm (d + 2)) mX8_goThrough 107 [(0, .ref b), (1, .ref a), (2, .int (nI v)), (4, .int (nI (hld p v))), (5, .int (nI i))] [] (sI μ g) 0 0 K := fun z => by
        refine b_X8_goThrough_107 (ih g q1 ?_)
        rw [wf_no z, ew, z]; exact q2
      have wf1 : wf p v k (i + 1) = if wc p v i ≤ k ∧ k < wc p v (i + 1) then (if k = wc p v i then i else 6 + i) else wf p v k i := rfl
      refine b_X8_goThrough_42 (hw5_r1 := hwa) (hK := fun c => absurd c (by rw [iv_sI, s1.1]; exact ge_c hi (by omega))) (hb := fun _ => hv) (hb_2 := fun _ => by omega) (h := fun _ c => Z ?_) (hb_3 := fun _ _ => hv) (hb_4 := fun _ _ => by omega) (h_2 := fun _ _ c => Z ?_) (hw8_r0 := hwb) (hc_meet := fun _ c1 c2 => ?_)
      · rw [e1, nI_z (by omega)] at c
        exact if_neg (fun z => z.1 c)
      · rw [e1, nI_eq (by omega) (by omega)] at c
        exact if_neg (fun z => c z.2)
      · rw [e1, nI_z (by omega)] at c1
        rw [e1, nI_eq (by omega) (by omega)] at c2
        have ewn : wn p v i = if p i = 1 ∧ hld p v = 1 then 2 else 1 := if_pos ⟨c1, c2⟩
        have w0 : nI (wnd i) = nI i := by unfold wnd; rw [if_pos (by omega)]
        have b0 : wbs i = 0 := if_neg (by omega)
        have m1 := c_meet (X := X) (d := d + 1) (c1 := i) (K := fun r μ2 => G X (Rm (d + 2)) mX8_goThrough 84 [(0, .ref b), (1, .ref a), (2, .int (nI v)), (4, .int (nI (hld p v))), (5, .int (nI i))] (r.toList ++ []) μ2 0 0 K) hwb q2 (by omega) hk
        rw [w0, b0] at m1
        refine m1 (fun f1 r1 r2 => ?_)
        have q1' : ∀ z, z ≠ b → ∀ j, f1 z j = f z j := fun z hz j => (r1 z hz j).trans (q1 z hz j)
        have s2 := sg f1 q1'
        have e3 : iv (sI μ f1) (a + 1) i = nI (p i) := s2.2.1 i (by omega)
        have l3 := hp.2.1 i (by omega)
        have One : ¬ (p i = 1 ∧ hld p v = 1) → G X (Rm (d + 2)) mX8_goThrough 107 [(0, .ref b), (1, .ref a), (2, .int (nI v)), (4, .int (nI (hld p v))), (5, .int (nI i))] [] (sI μ f1) 0 0 K := fun z => by
          refine b_X8_goThrough_107 (ih f1 q1' ?_)
          rw [if_neg z] at ewn
          rw [wf1, ew, ewn]
          by_cases q : wc p v i = k
          · rw [if_pos (by omega), if_pos q.symm]
            rw [if_pos q] at r2
            exact r2
          · rw [if_neg (by omega)]
            rw [if_neg q] at r2
            exact r2
        refine b_X8_goThrough_84 (hw5_r1 := hwa) (hb := by omega) (h := fun c => One (fun z => ?_)) (h_2 := fun _ c => One (fun z => c (by rw [z.2]; rfl))) (hw8_r0 := hwb) (hc_meet := fun c3 c4 => ?_)
        · rw [e3, nI_z (by omega)] at c; omega
        · rw [e3, nI_z (by omega)] at c3
          have c4 : hld p v = 1 := (nI_eq (b := 1) (by omega) (by decide)).mp c4
          have z : p i = 1 ∧ hld p v = 1 := ⟨by omega, c4⟩
          rw [if_pos z] at ewn
          have w1 : nI (wnd (6 + i)) = nI i := by unfold wnd; rw [if_neg (by omega), if_pos (by omega), show 6 + i - 6 = i by omega]
          have b1 : wbs (6 + i) = 1 := if_pos (by omega)
          have m2 := c_meet (X := X) (d := d + 1) (c1 := 6 + i) (K := fun r μ2 => G X (Rm (d + 2)) mX8_goThrough 107 [(0, .ref b), (1, .ref a), (2, .int (nI v)), (4, .int (nI (hld p v))), (5, .int (nI i))] (r.toList ++ []) μ2 0 0 K) hwb r2 (by omega) hk
          rw [w1, b1] at m2
          refine m2 (fun f2 t1 t2 => b_X8_goThrough_107 (ih f2 (fun z hz j => (t1 z hz j).trans (q1' z hz j)) ?_))
          rw [wf1, ew, ewn]
          by_cases q : wc p v i = k
          · rw [if_pos (by omega), if_pos q.symm]
            rw [if_neg (by omega), if_pos q] at t2
            exact t2
          · by_cases q2 : wc p v i + 1 = k
            · rw [if_pos (by omega), if_neg (by omega)]
              rw [if_pos q2] at t2
              exact t2
            · rw [if_neg (by omega)]
              rw [if_neg q2, if_neg q] at t2
              exact t2
  refine Ct_of rfl (Nat.le_of_ble_eq_true rfl) (b_X8_goThrough_0 hwb hwa ?_)
  rw [wi_sI, wi_sI, wi_sI, wi_sI]
  have q1 : ∀ z, z ≠ b → ∀ j, (u2 (u2 (u2 (u2 f b 2 0) b 3 (nI k)) b 0 (-1)) b 1 0) z j = f z j := fun z hz j => by rw [u2_x hz, u2_x hz, u2_x hz, u2_x hz]
  have s0 : WS (u2 (u2 (u2 (u2 f b 2 0) b 3 (nI k)) b 0 (-1)) b 1 0) b 13 0 k := ⟨by rw [u2_k (by omega), u2_s]; rfl, by rw [u2_s]; rfl, by rw [u2_k (by omega), u2_k (by omega), u2_k (by omega), u2_s]; rfl, by rw [u2_k (by omega), u2_k (by omega), u2_s]⟩
  refine c_holding hwa (sg _ q1) hp hv ?_
  refine b_X8_goThrough_25 (h := fun c => b_X8_goThrough_39 (H 0 (Nat.zero_le _) _ q1 ?_)) (hw8_r0 := hwb) (hc_meet := fun c => ?_)
  · have c1 : hld p v = 2 := (nI_eq (b := 2) (by show hld p v < _; omega) (by decide)).mp c
    have e1 : wf p v k 0 = 13 := if_neg (fun z => z.1 c1)
    have e2 : wc p v 0 = 0 := if_pos c1
    rw [e1, e2]; exact s0
  · have c1 : ¬ hld p v = 2 := fun z => c (congrArg nI z)
    have m1 := c_meet (X := X) (d := d + 1) (c1 := 12) (K := fun r μ2 => G X (Rm (d + 2)) mX8_goThrough 39 [(0, .ref b), (1, .ref a), (2, .int (nI v)), (4, .int (nI (hld p v)))] (r.toList ++ []) μ2 0 0 K) hwb s0 (by decide) hk
    refine m1 (fun f1 r1 r2 => b_X8_goThrough_39 (H 0 (Nat.zero_le _) f1 (fun z hz j => (r1 z hz j).trans (q1 z hz j)) ?_))
    have e2 : wc p v 0 = 1 := if_neg c1
    rw [e2]
    have e1 : wf p v k 0 = if 0 = k then 12 else 13 := by
      show (if hld p v ≠ 2 ∧ k = 0 then 12 else 13) = _
      by_cases z : k = 0
      · rw [if_pos ⟨c1, z⟩, if_pos z.symm]
      · rw [if_neg (by omega), if_neg (by omega)]
    rw [e1]; exact r2
theorem c_appOthers {i : Nat} (hwa : WF5 μ a) (hs : Sh f a p) (hp : okP p) (hn : p 60 < 6) (hi : i < p 60) (hK : ∀ f', (∀ z, (z < a ∨ a + 13 ≤ z) → ∀ j, f' z j = f z j) → Sh f' a (twin p i) → K none (sI μ f')) : Ct X (Rm (d + 1)) mX8_appendOthersOf [.ref a, .int (nI i)] (sI μ f) K := by
  have h6 := hp.1
  have e0 : iv (sI μ f) a 0 = nI (p 60) := hs.1
  have z60 : ∀ r k, r < 6 → k < 6 → (p 60 ≤ r ∨ p 60 ≤ k) → p (24 + 6 * r + k) = 0 := fun r k hr hk h => zero_out hp hr hk h
  have H2 : ∀ c, c ≤ p 60 + 1 → ∀ g, (∀ z, (z < a ∨ a + 13 ≤ z) → ∀ j, g z j = f z j) → S4 g a (p 60) p (fun u k => p (6 + 6 * u + twS (p 60) i k)) (fun r k => if k = p 60 ∧ c ≤ r then p (24 + 6 * twS (p 60) i r + k) else p (24 + 6 * twS (p 60) i r + twS (p 60) i k)) → G X (Rm (d + 1)) mX8_appendOthersOf 62 [(0, .ref a), (1, .int (nI i)), (2, .int (nI (p 60))), (3, .int (nI c))] [] (sI μ g) 0 0 K := by
    refine dn (p 60 + 1) ?_ ?_
    · intro g q1 q2
      refine b_X8_appendOthersOf_62 (j0 := 0) (hw5_r0 := hwa) (hc_append := fun _ => ?_) (hb := ?_) (hb_2 := ?_) (hi_j0 := ?_) (hb_3 := ?_) (h := ?_)
      · refine c_append (n := p 60) (m := 1) hwa q2.1 hn (by decide) (b_X8_appendOthersOf_94 (hK _ (fun z hz j => by rw [u2_x (by omega), u2_x (by omega)]; exact q1 z hz j) ?_))
        have q3 := S4.um (i := p 60) (n := 1) (m' := upd1 p (p 60) 1) q2 (upd1_s _ _ _) (fun k _ hne => upd1_n hne)
        refine S4_pg ((q3.uz (p 60 + 1)).cg (fun _ _ => rfl) (fun _ _ _ _ => rfl) (fun r k hr hk => ?_))
        (try dsimp only)
        by_cases z : k = p 60 ∧ p 60 + 1 ≤ r
        · rw [if_pos z]
          have e1 : twS (p 60) i r = r := if_neg (by omega)
          have e2 : twS (p 60) i k = i := if_pos z.1
          rw [e1, e2, z60 r k hr hk (by omega), z60 r i hr (by omega) (by omega)]
        · rw [if_neg z]
      all_goals (intro c; exact absurd (nI_lt (by omega) (by omega)) c)
    · intro c hc ih g q1 q2
      refine b_X8_appendOthersOf_62 (j0 := p 60) (hw5_r0 := hwa) (hc_append := fun z => absurd z (nI_nlt (by omega) (by omega))) (hb := fun _ => by omega) (hb_2 := fun _ => by omega) (hi_j0 := fun _ => rfl) (hb_3 := fun _ => hn) (h := fun _ => ?_)
      have e1 := q2.2.2.2 c i (by omega) (by omega)
      (try dsimp only at e1)
      rw [if_neg (by omega)] at e1
      rw [iv_sI, e1, wi_sI]
      refine ih _ (fun z hz j => by rw [u2_x (by omega)]; exact q1 z hz j) (S4.uN q2 (by omega) ?_ (fun r k hr hk hne => ?_))
      · (try dsimp only)
        rw [if_neg (by omega)]
        have e2 : twS (p 60) i (p 60) = i := if_pos rfl
        have e3 : twS (p 60) i i = i := if_neg (by omega)
        rw [e2, e3]
      · (try dsimp only)
        by_cases z : k = p 60 ∧ c ≤ r
        · rw [if_pos z, if_pos (by omega)]
        · rw [if_neg z, if_neg (by omega)]
  have H1 : ∀ c, c ≤ 3 → ∀ g, (∀ z, (z < a ∨ a + 13 ≤ z) → ∀ j, g z j = f z j) → S4 g a (p 60) p (fun u k => if u < c then p (6 + 6 * u + twS (p 60) i k) else p (6 + 6 * u + k)) (fun r k => p (24 + 6 * r + k)) → G X (Rm (d + 1)) mX8_appendOthersOf 14 [(0, .ref a), (1, .int (nI i)), (2, .int (nI (p 60))), (3, .int (nI c))] [] (sI μ g) 0 0 K := by
    refine dn 3 ?_ ?_
    · intro g q1 q2
      refine b_X8_appendOthersOf_14 (j0 := p 60) (hw5_r0 := hwa) (hb := fun _ => by omega) (hi_j0 := fun _ => rfl) (hb_2 := fun _ => hn) (h := fun _ => ?_) (hb_3 := ?_) (hb_4 := ?_) (hi_j0_2 := ?_) (hb_5 := ?_) (h_2 := ?_)
      · rw [cpI_sI]
        refine H2 0 (Nat.zero_le _) _ (fun z hz j => by rw [cp2_x (by omega)]; exact q1 z hz j) ?_
        have q3 := S4.rN (g := cp2 g (a + 7 + i) 0 (a + 7 + p 60) 0 6) (i := p 60) (N' := fun r k => p (24 + 6 * twS (p 60) i r + k)) q2 hn (fun z hz _ _ j => cp2_x hz) (fun j hj => ?_) (fun r k hr hk hne => ?_)
        · refine q3.cg (fun _ _ => rfl) (fun u k hu hk => by (try dsimp only); rw [if_pos hu]) (fun r k hr hk => ?_)
          (try dsimp only)
          by_cases z : k = p 60
          · rw [if_pos (by omega)]
          · rw [if_neg (by omega)]
            have e2 : twS (p 60) i k = k := if_neg z
            rw [e2]
        · rw [cp2_row hj]
          have e2 : twS (p 60) i (p 60) = i := if_pos rfl
          (try dsimp only)
          rw [e2]
          exact q2.2.2.2 i j (by omega) hj
        · (try dsimp only)
          have e2 : twS (p 60) i r = r := if_neg hne
          rw [e2]
      all_goals (intro c; exact absurd (le_r _) c)
    · intro c hc ih g q1 q2
      have e1 := q2.2.2.1 c i hc (by omega)
      (try dsimp only at e1)
      rw [if_neg (by omega)] at e1
      refine b_X8_appendOthersOf_14 (j0 := p 60) (hw5_r0 := hwa) (hb := fun _ => by omega) (hi_j0 := fun _ => rfl) (hb_2 := fun _ => hn) (h := fun z => absurd z (ge_c (n := 3) hc (by decide))) (hb_3 := fun _ => hc) (hb_4 := fun _ => by omega) (hi_j0_2 := fun _ => rfl) (hb_5 := fun _ => hn) (h_2 := fun _ => ?_)
      rw [iv_sI, e1, wi_sI]
      refine ih _ (fun z hz j => by rw [u2_x (by omega)]; exact q1 z hz j) (S4.uA q2 hc ?_ (fun u k hu hk hne => ?_))
      · (try dsimp only)
        have e2 : twS (p 60) i (p 60) = i := if_pos rfl
        rw [if_pos (by omega), e2]
      · (try dsimp only)
        by_cases z : u < c
        · rw [if_pos z, if_pos (by omega)]
        · rw [if_neg z]
          by_cases z2 : u < c + 1
          · have e2 : twS (p 60) i k = k := if_neg (by omega)
            rw [if_pos z2, e2]
          · rw [if_neg z2]
  refine Ct_of rfl (Nat.le_of_ble_eq_true rfl) (b_X8_appendOthersOf_0 (hw5_r0 := hwa) (h := fun _ => ?_) (hK := fun c => absurd (by rw [e0]; exact nI_lt (b := 6) hn (by decide)) c))
  rw [e0]
  exact H1 0 (Nat.zero_le _) f (fun _ _ _ => rfl) ((S4_of hs).cg (fun _ _ => rfl) (fun u k _ _ => by (try dsimp only); rw [if_neg (Nat.not_lt_zero _)]) (fun _ _ _ _ => rfl))
theorem c_ways (hwa : WF5 μ a) (hwb : WF8 μ b) (hab : a + 24 ≤ b ∨ b + 1 ≤ a) (hs : Sh f a p) (hp : okP p) (hv : v < 3) (hK : ∀ f', (∀ z, z ≠ b → ∀ j, f' z j = f z j) → K (some (.int (nI (wc p v (p 60))))) (sI μ f')) : Ct X (Rm (d + 3)) mX8_number [.ref b, .ref a, .int (nI v)] (sI μ f) K := by
  refine Ct_of rfl (Nat.le_of_ble_eq_true rfl) (b_X8_number_0 hwb ?_)
  refine c_through (k := 2 ^ 32 - 1) hwa hwb hab hs hp hv (by decide) (fun f1 r1 r2 => b_X8_number_7 hwb ?_)
  rw [iv_sI, r2.2.2.1]
  exact hK f1 r1
theorem c_split {k : Nat} (hwa : WF5 μ a) (hwb : WF8 μ b) (hab : a + 24 ≤ b ∨ b + 1 ≤ a) (hs : Sh f a p) (hp : okP p) (hv : v < 3) (hk : k < 2 ^ 32) (hK : ∀ f', (∀ z, (z < a ∨ a + 13 ≤ z) → z ≠ b → ∀ j, f' z j = f z j) → Sh f' a (splQ p v k) → K (some (.int (splA p v k))) (sI μ f')) : Ct X (Rm (d + 3)) mX8_apply [.ref b, .ref a, .int (nI v), .int (nI k)] (sI μ f) K := by
  have h6 := hp.1
  have hl := wf_lt (p := p) (v := v) (k := k) (p 60)
  have h13 := wf_13 (p := p) (v := v) (k := k) (p 60) h6
  have hwc := wc_le p v (p 60)
  refine Ct_of rfl (Nat.le_of_ble_eq_true rfl) (b_X8_apply_0 hwb ?_)
  refine c_through hwa hwb hab hs hp hv hk (fun f1 r1 r2 => ?_)
  have sf1 : Sh f1 a p := hs.fr (fun z h1 h2 j => r1 z (by omega) j)
  have ek := lt0 hk
  have em : iv (sI μ f1) b 2 = nI (wc p v (p 60)) := r2.2.2.1
  have eb : iv (sI μ f1) b 1 = nI (wbs (wf p v k (p 60))) := r2.2.1
  have BAD : (wf p v k (p 60) = 13 ∨ 2 ^ 31 ≤ k) → K (some (.int (-1))) (sI μ f1) := fun h => by
    have := hK f1 (fun z _ h2 j => r1 z h2 j)
    unfold splQ splA at this
    rw [if_pos h, if_pos h] at this
    exact this sf1
  have wb01 : wbs (wf p v k (p 60)) ≤ 1 := by unfold wbs; split <;> omega
  have wb0 : (iv (sI μ f1) b 1 = 0) ↔ ¬ (6 ≤ wf p v k (p 60) ∧ wf p v k (p 60) < 12) := by
    rw [eb, nI_z (by omega)]
    unfold wbs
    split <;> simp_all
  have fu := full5 (μ := μ) sf1 hp
  -- the variable is at one alone
  have Fin : ∀ (g : Nat → Nat → Int32) (q : Nat → Nat) (c : Nat), (∀ z, (z < a ∨ a + 13 ≤ z) → z ≠ b → ∀ j, g z j = f z j) → g b 0 = nI (if c < 6 then c else 2 ^ 32 - 1) → Sh g a q → okP q → (c < q 60 ∨ c = 12) → (∀ f', (∀ z, (z < a ∨ a + 13 ≤ z) → z ≠ b → ∀ j, f' z j = f z j) → Sh f' a (if c < 6 then upd1 (aloneR q v c) c 0 else setR q v (fun _ => 0)) → K (some (.int (nI (q 60)))) (sI μ f')) → G X (Rm (d + 3)) mX8_apply 53 [(0, .ref b), (1, .ref a), (2, .int (nI v))] [] (sI μ g) 0 0 K := by
    intro g q c s1 s2 s3 s4 s5 s6
    have q6 := s4.1
    refine b_X8_apply_53 hwa hv (c_fill (w5_q2 hwa v hv) (by decide) ?_)
    have t1 : Sh (flI g (a + 3 + v) 6 0) a (setR q v (fun _ => 0)) := Sh_row s3 hv (fun z hz _ _ j => flI_x hz) (fun i hi => flI_s hi)
    have e0 : iv (sI μ (flI g (a + 3 + v) 6 0)) b 0 = nI (if c < 6 then c else 2 ^ 32 - 1) := by rw [iv_sI, flI_x (by omega)]; exact s2
    have e60 : flI g (a + 3 + v) 6 0 a 0 = nI (q 60) := by rw [flI_x (by omega)]; exact s3.1
    have hh := e_has (μ := μ) (p := q) (i := if c < 6 then c else 2 ^ 32 - 1) e60 q6 (by split <;> omega)
    refine b_X8_apply_63 (j0 := c) (j1 := c) (hw8_r0 := hwb) (hw5_r1 := hwa) (h := fun z => b_X8_apply_96 hwa ?_) (hb := fun _ => hv) (hi_j0 := fun z => ?_) (hb_2 := fun z => ?_) (hi_j1 := fun z => ?_) (hb_3 := fun z => ?_) (h_2 := fun z => b_X8_apply_96 hwa ?_)
    · rw [e0, hh] at z
      rw [iv_sI, e60]
      have c12 : ¬ c < 6 := fun z2 => z (by rw [if_pos z2]; omega)
      refine s6 _ (fun z hz hz2 j => by rw [flI_x (by omega)]; exact s1 z hz hz2 j) ?_
      rw [if_neg c12]; exact t1
    · rw [e0, hh] at z
      have c6 : c < 6 := Decidable.byContradiction fun z2 => z (by rw [if_neg z2]; omega)
      rw [e0, if_pos c6]
    · rw [e0, hh] at z
      exact Decidable.byContradiction fun z2 => z (by rw [if_neg z2]; omega)
    · rw [e0, hh] at z
      have c6 : c < 6 := Decidable.byContradiction fun z2 => z (by rw [if_neg z2]; omega)
      rw [wi_sI, iv_sI, u2_x (by omega)]
      have := e0
      rw [if_pos c6] at this
      exact this
    · rw [e0, hh] at z
      exact Decidable.byContradiction fun z2 => z (by rw [if_neg z2]; omega)
    · rw [e0, hh] at z
      have c6 : c < 6 := Decidable.byContradiction fun z2 => z (by rw [if_neg z2]; omega)
      rw [wi_sI, wi_sI, iv_sI, u2_x (by omega), u2_x (by omega), e60]
      refine s6 _ (fun z hz hz2 j => by rw [u2_x (by omega), u2_x (by omega), flI_x (by omega)]; exact s1 z hz hz2 j) ?_
      rw [if_pos c6]
      have t2 : Sh (u2 (flI g (a + 3 + v) 6 0) (a + 3 + v) c 2) a (aloneR q v c) := Sh_row s3 hv (fun z hz _ _ j => by rw [u2_x hz, flI_x hz]) (fun i hi => by
        (try dsimp only)
        by_cases w : i = c
        · rw [if_pos w, w, u2_s]; rfl
        · rw [if_neg w, u2_k w, flI_s hi]; rfl)
      exact t2.um (n := 0) c6
  have T38 : wf p v k (p 60) ≠ 13 → ¬ 2 ^ 31 ≤ k → (6 ≤ wf p v k (p 60) ∧ wf p v k (p 60) < 12 → p 60 < 6) → G X (Rm (d + 3)) mX8_apply 38 [(0, .ref b), (1, .ref a), (2, .int (nI v))] [] (sI μ f1) 0 0 K := by
    intro n13 nk nf
    have hK2 : ∀ f', (∀ z, (z < a ∨ a + 13 ≤ z) → z ≠ b → ∀ j, f' z j = f z j) → Sh f' a (splP p v (wf p v k (p 60))) → K (some (.int (nI (splP p v (wf p v k (p 60)) 60)))) (sI μ f') := fun f' u1 u2 => by
      have := hK f' u1
      unfold splQ splA at this
      rw [if_neg (by omega), if_neg (by omega), if_neg (by omega), if_neg (by omega)] at this
      exact this u2
    refine b_X8_apply_38 (hw8_r0 := hwb) (h := fun c => ?_) (hc_appendOthersOf := fun c => ?_)
    · rw [wb0] at c
      refine Fin f1 p (wf p v k (p 60)) (fun z _ h2 j => r1 z h2 j) ?_ sf1 hp (by omega) (fun f' u1 u2 => ?_)
      · rw [r2.1]
        unfold wnd
        by_cases z : wf p v k (p 60) < 6
        · rw [if_pos z, if_pos z]
        · rw [if_neg z, if_neg z, if_neg (by omega)]
      · have e9 : splP p v (wf p v k (p 60)) = if wf p v k (p 60) < 6 then upd1 (aloneR p v (wf p v k (p 60))) (wf p v k (p 60)) 0 else setR p v (fun _ => 0) := by
          unfold splP
          by_cases z : wf p v k (p 60) < 6
          · rw [if_pos z, if_pos z]
          · rw [if_neg z, if_neg z, if_neg (by omega)]
        have e8 : splP p v (wf p v k (p 60)) 60 = p 60 := by
          rw [e9]
          split
          · rw [upd1_n (by omega)]; exact setR_60 hv
          · exact setR_60 hv
        have := hK2 f' u1
        rw [e8, e9] at this
        exact this u2
    · have c2 : 6 ≤ wf p v k (p 60) ∧ wf p v k (p 60) < 12 := Decidable.byContradiction fun z => c (wb0.mpr z)
      have hi : wf p v k (p 60) - 6 < p 60 := by omega
      have e0 : iv (sI μ f1) b 0 = nI (wf p v k (p 60) - 6) := by
        rw [iv_sI, r2.1]
        unfold wnd
        rw [if_neg (by omega), if_pos c2.2]
      rw [e0]
      refine c_appOthers hwa sf1 hp (nf c2) hi (fun f2 u1 u2 => ?_)
      have e9 : splP p v (wf p v k (p 60)) = upd1 (aloneR (twin p (wf p v k (p 60) - 6)) v (wf p v k (p 60) - 6)) (wf p v k (p 60) - 6) 0 := by
        unfold splP
        rw [if_neg (by omega), if_pos c2.2]
      have e8 : splP p v (wf p v k (p 60)) 60 = p 60 + 1 := by
        rw [e9, upd1_n (by omega)]
        exact setR_60 hv
      refine Fin f2 (twin p (wf p v k (p 60) - 6)) (wf p v k (p 60) - 6) (fun z h1 h2 j => (u1 z h1 j).trans (r1 z h2 j)) ?_ u2 (okP_twin hp (nf c2) hi) (Or.inl (by show _ < p 60 + 1; omega)) (fun f' w1 w2 => ?_)
      · rw [u1 b (by omega), if_pos (by omega)]
        exact e0
      · have := hK2 f' w1
        rw [e8, e9] at this
        rw [if_pos (by omega)] at w2
        exact this w2
  have lm : ∀ _ : ¬ nI k < 0, (nI k < iv (sI μ f1) b 2 ↔ k < wc p v (p 60)) := fun z => by
    rw [ek] at z
    rw [em]
    exact nI_ltI (by omega) (by omega)
  refine b_X8_apply_7 (hK := fun c => BAD (Or.inr (ek.mp c))) (hw8_r0 := hwb) (h := fun c1 c2 c3 => T38 ?_ (fun z => c1 (ek.mpr z)) ?_) (hw5_r1 := hwa) (h_2 := fun c1 c2 c3 c4 => T38 ?_ (fun z => c1 (ek.mpr z)) (fun _ => fu.mp c4)) (hK_2 := fun c1 c2 c3 c4 => ?_) (hK_3 := fun c1 c2 => BAD (Or.inl ?_))
  · rw [lm c1] at c2; omega
  · rw [wb0] at c3; exact fun z => absurd z c3
  · rw [lm c1] at c2; omega
  · have z3 : 6 ≤ wf p v k (p 60) ∧ wf p v k (p 60) < 12 := Decidable.byContradiction fun z => c3 (wb0.mpr z)
    rw [lm c1] at c2
    rw [fu] at c4
    have nk : ¬ 2 ^ 31 ≤ k := fun z => c1 (ek.mpr z)
    have := hK f1 (fun z _ h2 j => r1 z h2 j)
    unfold splQ splA at this
    have n1 : ¬ (wf p v k (p 60) = 13 ∨ 2 ^ 31 ≤ k) := by omega
    have y1 : 6 ≤ wf p v k (p 60) ∧ wf p v k (p 60) < 12 ∧ p 60 = 6 := by omega
    rw [if_neg n1, if_neg n1, if_pos y1, if_pos y1] at this
    exact this sf1
  · rw [lm c1] at c2; omega
end P38
