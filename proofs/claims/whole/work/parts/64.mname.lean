def isWg (T : Nat → Nat) (tk h s w : Nat) : Bool := decide (tk = 1 ∧ s - h = wl w ∧ ∀ k, k < wl w → T (h + k) = letN (endN w + k))
def nmg (T : Nat → Nat) (tk h s : Nat) : Nat := nmG (isWg T tk h s) 13
def nwI (w : Nat) : Int32 := if w < 13 then nI w else -4
theorem nmg_W (T : Nat → Nat) (n q : Nat) : nmg T (tK T n q) (tA T n q) (tB T n q) = nmW T n q := rfl
theorem en_ok : ∀ w, w < 13 → endN w ≤ endN (w + 1) ∧ endN (w + 1) ≤ 46 := by decide
theorem nmG_13 {P : Nat → Bool} (h : ∀ w, ¬ P w = true) {k : Nat} (hk : k ≤ 13) : nmG P k = 13 := by
  rcases nmG_or P k hk with ⟨a, _⟩ | ⟨_, _, b, _⟩
  · exact a
  · exact absurd b (h _)
theorem nmG_s {P : Nat → Bool} {i : Nat} (hi : i < 13) : nmG P (13 - i) = if P i = true then i else nmG P (13 - (i + 1)) := by
  rw [show 13 - i = (12 - i) + 1 by omega, show 13 - (i + 1) = 12 - i by omega]
  show (if P (12 - (12 - i)) = true then 12 - (12 - i) else nmG P (12 - i)) = _
  rw [show 12 - (12 - i) = i by omega]
section P64
variable {X : cX} {d : Nat} {μ : mM} {K : Option Value → mM → Prop} {f : Nat → Nat → Int32} {y q n : Nat} {T F : Nat → Nat} {e : Nat × Nat}
theorem m_nameG {tk h s : Nat} (hw : WF12 μ y) (hT : MTP f y T n) (hN : NM f y) (h12 : f y 12 = nI tk) (htk : tk ≤ 5) (h10 : f y 10 = nI s) (h11 : f y 11 = nI h) (hhs : h ≤ s) (hs : s ≤ n) (hK : K (some (.int (nwI (nmg T tk h s)))) (sI μ f)) : Ct X (Rm (d + 1)) mX12_nameHere [.ref y] (sI μ f) K := by
  have n320 := hT.1
  have hb := hT.2.1
  have k1 : (iv (sI μ f) y 12 = (1 : Int32)) ↔ tk = 1 := by rw [iv_sI, h12]; exact nI_eq (b := 1) (by omega) (by decide)
  have ed : iv (sI μ f) y 10 - iv (sI μ f) y 11 = nI (s - h) := by rw [iv_sI, iv_sI, h10, h11]; exact pk_sub hhs
  refine Ct_of rfl (Nat.le_of_ble_eq_true rfl) (b_X12_nameHere_0 ?_)
  have H : ∀ i, i ≤ 13 → nmG (isWg T tk h s) (13 - i) = nmg T tk h s → G X (Rm (d + 1)) mX12_nameHere 2 [(0, .ref y), (1, .int (nI i))] [] (sI μ f) 0 0 K := by
    refine dn 13 ?_ ?_
    · intro hr
      rw [← hr] at hK
      exact b_X12_nameHere_2 (hK := fun _ => hK) (hw12_r0 := hw) (hK_2 := fun c => absurd (le_r _) c) (hb := fun c => absurd (le_r _) c) (hb_2 := fun c => absurd (le_r _) c) (h := fun c => absurd (le_r _) c) (h_2 := fun c => absurd (le_r _) c)
    · intro i hi ih hr
      have nle : ¬ (13 : Int32) ≤ nI i := ge_c (n := 13) hi (by decide)
      have en := en_ok i hi
      have w46 := wl_le i hi
      have ee : iv (sI μ f) (y + 5) (i + 1) - iv (sI μ f) (y + 5) i = nI (wl i) := by rw [iv_sI, iv_sI, hN.1 _ (by omega), hN.1 _ (by omega)]; exact pk_sub en.1
      have NO : ¬ isWg T tk h s i = true → G X (Rm (d + 1)) mX12_nameHere 2 [(0, .ref y), (1, .int (nI (i + 1)))] [] (sI μ f) 0 0 K := fun c => by
        rw [nmG_s hi, if_neg c] at hr
        exact ih hr
      have Z51 : ∀ k, ¬ isWg T tk h s i = true → G X (Rm (d + 1)) mX12_nameHere 51 [(0, .ref y), (1, .int (nI i)), (2, .int 0), (3, .int (nI k))] [] (sI μ f) 0 0 K := fun k c =>
        b_X12_nameHere_51 (j0 := 0) (j1 := 0) (h := fun _ => b_X12_nameHere_106 (h := fun _ => NO c) (hK := fun w => absurd rfl w)) (hw12_r0 := hw) (h_2 := fun w => absurd rfl w) (hi_j0 := fun w => absurd rfl w) (hs := fun w => absurd rfl w) (hb := fun w => absurd rfl w) (hi_j1 := fun w => absurd rfl w) (hb_2 := fun w => absurd rfl w) (h_3 := fun w => absurd rfl w) (h_4 := fun w => absurd rfl w)
      have wi_i : isWg T tk h s i = true ↔ tk = 1 ∧ s - h = wl i ∧ ∀ k, k < wl i → T (h + k) = letN (endN i + k) := by unfold isWg; rw [decide_eq_true_iff]
      have c1 : ¬ (1 : Int32) = 0 := by decide
      refine b_X12_nameHere_2 (hK := fun c => absurd c nle) (hw12_r0 := hw) (hK_2 := fun _ c => ?_) (hb := fun _ _ => by omega) (hb_2 := fun _ _ => by omega) (h := fun _ _ c => b_X12_nameHere_48 (Z51 0 (fun w => ?_))) (h_2 := fun _ t1 c => b_X12_nameHere_48 ?_)
      · rw [k1] at c
        have : nmg T tk h s = 13 := nmG_13 (fun w z => by unfold isWg at z; rw [decide_eq_true_iff] at z; exact c z.1) (Nat.le_refl _)
        rw [this] at hK
        exact hK
      · rw [ed, ee] at c
        exact c (by rw [(wi_i.mp w).2.1])
      · rw [k1] at t1
        rw [ed, ee, nI_eq (by omega) (by omega)] at c
        have M : ∀ k, k ≤ wl i → (∀ j, j < k → T (h + j) = letN (endN i + j)) → G X (Rm (d + 1)) mX12_nameHere 51 [(0, .ref y), (1, .int (nI i)), (2, .int 1), (3, .int (nI k))] [] (sI μ f) 0 0 K := by
          refine dn _ ?_ ?_
          · intro hall
            have le : iv (sI μ f) y 10 - iv (sI μ f) y 11 ≤ nI (wl i) := by rw [ed, c]; exact le_r _
            refine b_X12_nameHere_51 (j0 := 0) (j1 := 0) (h := fun w => absurd w c1) (hw12_r0 := hw) (h_2 := fun _ _ => b_X12_nameHere_106 (h := fun w => absurd w c1) (hK := fun _ => ?_)) (hi_j0 := fun _ w => absurd le w) (hs := fun _ w => absurd le w) (hb := fun _ w => absurd le w) (hi_j1 := fun _ w => absurd le w) (hb_2 := fun _ w => absurd le w) (h_3 := fun _ w => absurd le w) (h_4 := fun _ w => absurd le w)
            rw [nmG_s hi, if_pos (wi_i.mpr ⟨t1, c, hall⟩)] at hr
            rw [← hr] at hK
            unfold nwI at hK
            rw [if_pos hi] at hK
            exact hK
          · intro k hk ih2 hall
            have nle2 : ¬ iv (sI μ f) y 10 - iv (sI μ f) y 11 ≤ nI k := by rw [ed, c]; exact ge_c hk (by omega)
            have bx := hb (h + k) (by omega)
            have lb := let_le (endN i + k) (by omega)
            have e1 : e_X12_byteAt (sI μ f) y (h + k) = nI (T (h + k)) := by rw [byteI hT (by omega)]; exact if_pos (by omega)
            have e2 : iv (sI μ f) (y + 6) (endN i + k) = nI (letN (endN i + k)) := hN.2 _ (by omega)
            have ce : (e_X12_byteAt (sI μ f) y (h + k) = iv (sI μ f) (y + 6) (endN i + k)) ↔ T (h + k) = letN (endN i + k) := by rw [e1, e2]; exact nI_eq (by omega) (by omega)
            refine b_X12_nameHere_51 (j0 := h + k) (j1 := endN i + k) (h := fun w => absurd w c1) (hw12_r0 := hw) (h_2 := fun _ w => absurd w nle2) (hi_j0 := fun _ _ => by rw [iv_sI, h11, nI_add]) (hs := fun _ _ => hsI hT (by omega)) (hb := fun _ _ => by omega) (hi_j1 := fun _ _ => by rw [iv_sI, hN.1 _ (by omega), nI_add]) (hb_2 := fun _ _ => by omega) (h_3 := fun _ _ w => b_X12_nameHere_99 (Z51 (k + 1) (fun v => w (ce.mpr ((wi_i.mp v).2.2 k hk))))) (h_4 := fun _ _ w => b_X12_nameHere_99 (ih2 (fun j hj => ?_)))
            by_cases g : j = k
            · rw [g]; exact ce.mp w
            · exact hall j (by omega)
        exact M 0 (Nat.zero_le _) (fun j hj => absurd hj (Nat.not_lt_zero _))
  exact H 0 (Nat.zero_le _) rfl
theorem m_nameL (hw : WF12 μ y) (hT : MTP f y T n) (hN : NM f y) (hq : q ≤ n) (h : LV f y T n q) (hK : K (some (.int (nwI (nmW T n q)))) (sI μ f)) : Ct X (Rm (d + 1)) mX12_nameHere [.ref y] (sI μ f) K :=
  m_nameG hw hT hN h.2.2.2.1 tK_le h.2.1 h.2.2.1 (tB_b hq).1 (tB_b hq).2 hK
theorem m_nameB (hw : WF12 μ y) (hT : MTP f y T n) (hN : NM f y) (h : BR f y n e) (hK : ∀ w, w ≤ 13 → K (some (.int (nwI w))) (sI μ f)) : Ct X (Rm (d + 1)) mX12_nameHere [.ref y] (sI μ f) K := by
  obtain ⟨_, _, _, h', s', k', e1, e2, e3, e4, e5, e6⟩ := h
  refine m_nameG hw hT hN e3 e6 e2 e1 e4 e5 (hK _ ?_)
  rcases nmG_or (isWg T k' h' s') 13 (Nat.le_refl _) with ⟨a, _⟩ | ⟨_, a, _⟩
  · unfold nmg; omega
  · unfold nmg; omega
theorem m_letterB {c : Int32} (hw : WF12 μ y) (hT : MTP f y T n) (h : BR f y n e) (hK : K (some (.int 0)) (sI μ f)) : Ct X (Rm (d + 1)) mX12_letterRead [.ref y, .int c] (sI μ f) K := by
  have n0 : ¬ iv (sI μ f) y 8 = 0 := h.n0
  obtain ⟨_, _, _, h', s', k', e1, e2, e3, e4, e5, e6⟩ := h
  have n320 := hT.1
  have A : ∀ v, G X (Rm (d + 1)) mX12_letterRead 49 [(0, .ref y), (1, .int c)] [.int v] (sI μ f) 0 0 K := fun v =>
    b_X12_letterRead_49 (hw12_r0 := hw) (h := fun _ => b_X12_letterRead_66 (j0 := h') (hw12_r0 := hw) (hK := fun _ => hK) (hi_j0 := fun w => absurd w n0) (hs := fun w => absurd w n0) (hK_2 := fun w => absurd w n0)) (h_2 := fun w => absurd w n0) (hc_fails := fun w => absurd w n0)
  exact Ct_of rfl (Nat.le_of_ble_eq_true rfl) (b_X12_letterRead_0 (j0 := h') (hw12_r0 := hw) (h := fun _ => b_X12_letterRead_48 (A 0)) (h_2 := fun _ _ => b_X12_letterRead_48 (A 0)) (hi_j0 := fun _ _ => e1) (hs := fun _ _ => hsI hT (by omega)) (h_3 := fun _ _ _ => b_X12_letterRead_48 (A 0)) (h_4 := fun _ _ _ => A 1))
theorem m_letterL {c : Nat} (hw : WF12 μ y) (hT : MTP f y T n) (hq : q ≤ n) (h : LV f y T n q) (hc : c = 97 ∨ c = 120) (hO : o3 T n q c < 3 → K (some (.int (nI (o3 T n q c)))) (sI μ f)) (hE : ¬ o3 T n q c < 3 → ∀ g, MG f g y → BR g y n (2, tA T n q) → K (some (.int 0)) (sI μ g)) : Ct X (Rm (d + 1)) mX12_letterRead [.ref y, .int (nI c)] (sI μ f) K := by
  have n320 := hT.1
  have hb := hT.2.1
  have aB := tA_b (T := T) hq
  have bB := tB_b (T := T) hq
  have tl := tK_le (T := T) (n := n) (q := q)
  have e8 : iv (sI μ f) y 8 = 0 := h.1
  have k1 : (iv (sI μ f) y 12 = (1 : Int32)) ↔ tK T n q = 1 := by rw [iv_sI, h.2.2.2.1]; exact nI_eq (b := 1) (by omega) (by decide)
  have ed : iv (sI μ f) y 10 - iv (sI μ f) y 11 = nI (tB T n q - tA T n q) := by rw [iv_sI, iv_sI, h.2.1, h.2.2.1]; exact pk_sub bB.1
  have d1 : (iv (sI μ f) y 10 - iv (sI μ f) y 11 = (1 : Int32)) ↔ tB T n q - tA T n q = 1 := by rw [ed]; exact nI_eq (b := 1) (by omega) (by decide)
  have hc2 : c < 2 ^ 31 ∧ ((nI c).toInt64).toInt = (c : Nat) ∧ ((nI c).toInt64 + 2).toInt = ((c + 2 : Nat) : Int) := by
    rcases hc with w | w <;> subst w <;> decide
  have ei : e_X12_in (sI μ f) ((e_X12_byteAt (sI μ f) y (tA T n q)).toInt64) (nI c).toInt64 ((nI c).toInt64 + 2) = 0 ↔ ¬ (tA T n q < n ∧ c ≤ T (tA T n q) ∧ T (tA T n q) ≤ c + 2) := by
    rw [byteI hT (by omega)]; exact bAt_in hb hc2.2.1 hc2.2.2
  have BAD : ¬ o3 T n q c < 3 → G X (Rm (d + 1)) mX12_letterRead 48 [(0, .ref y), (1, .int (nI c))] [] (sI μ f) 0 0 K := fun z => by
    refine b_X12_letterRead_48 (b_X12_letterRead_49 (hw12_r0 := hw) (h := fun w => absurd e8 w) (h_2 := fun _ w => absurd rfl w) (hc_fails := fun _ _ => ?_))
    refine m_failL (c := 2) hw hq h (by decide) (fun g mg br => ?_)
    have n0 : ¬ iv (sI μ g) y 8 = 0 := br.n0
    exact b_X12_letterRead_66 (j0 := 0) (hw12_r0 := hw) (hK := fun _ => hE z g mg br) (hi_j0 := fun w => absurd w n0) (hs := fun w => absurd w n0) (hK_2 := fun w => absurd w n0)
  refine Ct_of rfl (Nat.le_of_ble_eq_true rfl) (b_X12_letterRead_0 (j0 := tA T n q) (hw12_r0 := hw) (h := fun w => BAD (fun z => w (k1.mpr (o3_1 z).1))) (h_2 := fun _ w => BAD (fun z => w (d1.mpr (o3_1 z).2.1))) (hi_j0 := fun _ _ => h.2.2.1) (hs := fun _ _ => hsI hT (by omega)) (h_3 := fun _ _ w => BAD (fun z => ?_)) (h_4 := fun w1 w2 w3 => ?_))
  · have o := o3_1 z
    have := (tK_n0 (T := T) hq (by omega)).2
    exact (ei.mp w) ⟨this, o.2.2.1, by omega⟩
  · rw [k1] at w1
    rw [d1] at w2
    rw [ei, Decidable.not_not] at w3
    have eo : o3 T n q c = T (tA T n q) - c := if_pos ⟨w1, w2, w3.2.1, by omega⟩
    have bx := hb _ w3.1
    refine b_X12_letterRead_49 (hw12_r0 := hw) (h := fun w => absurd e8 w) (h_2 := fun _ _ => ?_) (hc_fails := fun _ w => absurd w (by decide))
    refine b_X12_letterRead_66 (j0 := tA T n q) (hw12_r0 := hw) (hK := fun w => absurd e8 w) (hi_j0 := fun _ => h.2.2.1) (hs := fun _ => hsI hT (by omega)) (hK_2 := fun _ => ?_)
    rw [byteI hT (by omega), show bAt T n (tA T n q) = nI (T (tA T n q)) from if_pos w3.1, pk_sub w3.2.1, ← eo]
    exact hO (by omega)
theorem m_varB (hw : WF12 μ y) (hT : MTP f y T n) (h : BR f y n e) (hK : K (some (.int 0)) (sI μ f)) : Ct X (Rm (d + 2)) mX12_variableRead [.ref y] (sI μ f) K :=
  Ct_of rfl (Nat.le_of_ble_eq_true rfl) (b_X12_variableRead_0 hw (m_letterB hw hT h (b_X12_variableRead_6 hw (m_readB hw h (b_X12_variableRead_11 hK)))))
theorem rT_5 (h : tK T n q = 5) : rT T n q = (1, tA T n q) := by unfold rT; rw [if_pos h]
theorem rT_n (h : tK T n q ≠ 5) : rT T n q = (2, tA T n q) := by unfold rT; rw [if_neg h]
theorem m_varL (hw : WF12 μ y) (hT : MTP f y T n) (h : RQ f y T n q) (hE : ∀ g e, pVar T n q = .error e → MG f g y → BR g y n e → K (some (.int 0)) (sI μ g)) (hO : ∀ g r, pVar T n q = .ok r → r.1 < 3 → MG f g y → RQ g y T n r.2 → K (some (.int (nI r.1))) (sI μ g)) : Ct X (Rm (d + 2)) mX12_variableRead [.ref y] (sI μ f) K := by
  obtain ⟨hq, ⟨t5, br⟩ | lv⟩ := h
  · have eo : pVar T n q = .error (1, tA T n q) := by
      unfold pVar
      rw [if_neg (fun z => by have := (o3_1 z).1; omega), rT_5 t5]
    exact m_varB hw hT br (hE f _ eo (MG.rf _ _) br)
  · refine Ct_of rfl (Nat.le_of_ble_eq_true rfl) (b_X12_variableRead_0 hw (m_letterL (c := 120) hw hT hq lv (Or.inr rfl) (fun z => ?_) (fun z g mg br => ?_)))
    · have eo : pVar T n q = .ok (o3 T n q 120, tB T n q) := if_pos z
      exact b_X12_variableRead_6 hw (m_read hw hT lv hq (fun g mg rq => b_X12_variableRead_11 (hO g _ eo z mg rq)))
    · have eo : pVar T n q = .error (2, tA T n q) := by unfold pVar; rw [if_neg z, rT_n lv.2.2.2.2.2]
      exact b_X12_variableRead_6 hw (m_readB hw br (b_X12_variableRead_11 (hE g _ eo mg br)))
theorem u2_id {z j : Nat} : sI μ (u2 f z j (f z j)) = sI μ f := sI_ext μ (fun a b => by
  unfold u2
  split
  · rename_i h; rw [h.1, h.2]
  · rfl)
theorem m_node41B (hw : WF12 μ y) (h : BR f y n e) (hK : K (some (.int 0)) (sI μ f)) : G X (Rm (d + 2)) mX12_nodeRead 41 [(0, .ref y)] [] (sI μ f) 0 0 K := by
  have n0 : ¬ iv (sI μ f) y 8 = 0 := h.n0
  have E : G X (Rm (d + 2)) mX12_nodeRead 81 [(0, .ref y), (1, .int 0)] [.ref y] (sI μ f) 0 0 K := by
    refine b_X12_nodeRead_81 hw (b_X12_nodeRead_85 hw hw ?_)
    rw [iv_sI, wi_sI, u2_id]
    exact m_readB hw h (b_X12_nodeRead_92 hK)
  exact b_X12_nodeRead_41 (hw12_r0 := hw) (h := fun _ => b_X12_nodeRead_56 (hw12_r0 := hw) (h := fun _ => E) (h_2 := fun _ _ => E) (h_3 := fun _ c => absurd c n0)) (h_2 := fun c => absurd c n0)
theorem m_node20B (hw : WF12 μ y) (h : BR f y n e) (hK : K (some (.int 0)) (sI μ f)) : G X (Rm (d + 2)) mX12_nodeRead 20 [(0, .ref y)] [] (sI μ f) 0 0 K := by
  have n0 : ¬ iv (sI μ f) y 8 = 0 := h.n0
  exact b_X12_nodeRead_20 (hw12_r0 := hw) (h := fun _ => m_node41B hw h hK) (h_2 := fun c => absurd c n0) (hc_fails := fun c => absurd c n0)
theorem m_nodB (hw : WF12 μ y) (h : BR f y n e) (hK : K (some (.int 0)) (sI μ f)) : Ct X (Rm (d + 2)) mX12_nodeRead [.ref y] (sI μ f) K := by
  have n0 : ¬ iv (sI μ f) y 8 = 0 := h.n0
  exact Ct_of rfl (Nat.le_of_ble_eq_true rfl) (b_X12_nodeRead_0 (hw12_r0 := hw) (h := fun _ => m_node20B hw h hK) (h_2 := fun c => absurd c n0) (hc_fails := fun c => absurd c n0))
/-- and the furthest node -/
def MN (f g : Nat → Nat → Int32) (y m : Nat) : Prop := (∀ z, z ≠ y → ∀ j, g z j = f z j) ∧ (∀ j, (j < 8 ∨ 15 ≤ j) → g y j = f y j) ∧ g y 14 = nI m
theorem MTP.mn {g : Nat → Nat → Int32} {m : Nat} (h : MTP f y T n) (hg : MN f g y m) : MTP g y T n := h.fr (hg.2.1 6 (Or.inl (by decide))) (fun j => hg.1 _ (by omega) j)
theorem NM.mn {g : Nat → Nat → Int32} {m : Nat} (h : NM f y) (hg : MN f g y m) : NM g y := ⟨fun i hi => by rw [hg.1 _ (by omega)]; exact h.1 i hi, fun i hi => by rw [hg.1 _ (by omega)]; exact h.2 i hi⟩
theorem m_nodL {m : Nat} (hw : WF12 μ y) (hT : MTP f y T n) (h : RQ f y T n q) (hm : f y 14 = nI m) (hm6 : m ≤ 6) (hE : ∀ g e, pNod T n q = .error e → MG f g y → BR g y n e → K (some (.int 0)) (sI μ g)) (hO : ∀ g r, pNod T n q = .ok r → r.1 < 6 → MN f g y (max m (r.1 + 1)) → RQ g y T n r.2 → K (some (.int (nI r.1))) (sI μ g)) : Ct X (Rm (d + 2)) mX12_nodeRead [.ref y] (sI μ f) K := by
  obtain ⟨hq, ⟨t5, br⟩ | lv⟩ := h
  · have eo : pNod T n q = .error (1, tA T n q) := by
      unfold pNod
      rw [if_neg (by omega), rT_5 t5]
    exact m_nodB hw br (hE f _ eo (MG.rf _ _) br)
  · have tl := tK_le (T := T) (n := n) (q := q)
    have e8 : iv (sI μ f) y 8 = 0 := lv.1
    have k2 : (iv (sI μ f) y 12 = (2 : Int32)) ↔ tK T n q = 2 := by rw [iv_sI, lv.2.2.2.1]; exact nI_eq (b := 2) (by omega) (by decide)
    refine Ct_of rfl (Nat.le_of_ble_eq_true rfl) (b_X12_nodeRead_0 (hw12_r0 := hw) (h := fun c => absurd e8 c) (h_2 := fun _ c => ?_) (hc_fails := fun _ c => ?_))
    · rw [k2] at c
      have nl := num_lt hq c
      have e13 : iv (sI μ f) y 13 = nI (num T n q) := lv.2.2.2.2.1 c
      have l6 : (iv (sI μ f) y 13 < (6 : Int32)) ↔ num T n q < 6 := by rw [e13]; exact nI_ltI (b := 6) (by omega) (by decide)
      refine b_X12_nodeRead_20 (hw12_r0 := hw) (h := fun c => absurd e8 c) (h_2 := fun _ c6 => ?_) (hc_fails := fun _ c6 => ?_)
      · rw [l6] at c6
        have eo : pNod T n q = .ok (num T n q, tB T n q) := by unfold pNod; rw [if_pos c, if_pos c6]
        refine b_X12_nodeRead_41 (hw12_r0 := hw) (h := fun c => absurd e8 c) (h_2 := fun _ => ?_)
        rw [e13]
        have le : (nI (num T n q) + 1 ≤ iv (sI μ f) y 14) ↔ num T n q + 1 ≤ m := by rw [nI_1, iv_sI, hm]; exact nI_leI (by omega) (by omega)
        have F : ∀ v, v = max m (num T n q + 1) → G X (Rm (d + 2)) mX12_nodeRead 85 [(0, .ref y), (1, .int (nI (num T n q)))] [.int (nI v), .ref y] (sI μ f) 0 0 K := fun v hv => by
          refine b_X12_nodeRead_85 hw hw ?_
          rw [wi_sI]
          have hT2 : MTP (u2 f y 14 (nI v)) y T n := hT.fr (u2_k (by decide)) (fun j => u2_x (by omega))
          have lv2 : LV (u2 f y 14 (nI v)) y T n q := ⟨by rw [u2_k (by decide)]; exact lv.1, by rw [u2_k (by decide)]; exact lv.2.1, by rw [u2_k (by decide)]; exact lv.2.2.1, by rw [u2_k (by decide)]; exact lv.2.2.2.1, fun w => by rw [u2_k (by decide)]; exact lv.2.2.2.2.1 w, lv.2.2.2.2.2⟩
          refine m_read hw hT2 lv2 hq (fun g mg rq => b_X12_nodeRead_92 (hO g _ eo c6 ⟨fun z hz j => by rw [mg.1 z hz, u2_x hz], fun j hj => by rw [mg.2 j (by omega), u2_k (by omega)], ?_⟩ rq))
          rw [mg.2 14 (by decide), u2_s, hv]
        refine b_X12_nodeRead_56 (hw12_r0 := hw) (h := fun w => b_X12_nodeRead_81 hw ?_) (h_2 := fun _ w => absurd e8 w) (h_3 := fun w _ => ?_)
        · rw [le] at w
          rw [iv_sI, hm]
          exact F m (by rw [Nat.max_eq_left w])
        · rw [le] at w
          rw [nI_1]
          exact F _ (by rw [Nat.max_eq_right (by omega)])
      · rw [l6] at c6
        have eo : pNod T n q = .error (3, tA T n q) := by unfold pNod; rw [if_pos c, if_neg c6]
        exact m_failL (c := 3) hw hq lv (by decide) (fun g mg br => m_node41B hw br (hE g _ eo mg br))
    · rw [k2] at c
      have eo : pNod T n q = .error (2, tA T n q) := by unfold pNod; rw [if_neg c, rT_n lv.2.2.2.2.2]
      exact m_failL (c := 2) hw hq lv (by decide) (fun g mg br => m_node20B hw br (hE g _ eo mg br))
theorem m_truB (hw : WF12 μ y) (h : BR f y n e) (hK : K (some (.int 2)) (sI μ f)) : Ct X (Rm (d + 2)) mX12_truthRead [.ref y] (sI μ f) K :=
  Ct_of rfl (Nat.le_of_ble_eq_true rfl) (b_X12_truthRead_0 (hw12_r0 := hw) (hK := fun _ => hK) (hc_nameHere := fun c => absurd c h.n0))
theorem nwI_10 {w : Nat} (h : w ≤ 13) {k : Nat} {z : Int32} (hz : z = nI k) (hk : k < 13) : nwI w = z ↔ w = k := by
  unfold nwI
  by_cases c : w < 13
  · rw [if_pos c, hz, nI_eq (by omega) (by omega)]
  · rw [if_neg c, hz]
    refine ⟨fun v => ?_, fun v => by omega⟩
    have := (nI_eqU (a := 2 ^ 32 - 4) (b := k) (by decide) (by omega)).mp (Eq.trans (by decide) v)
    omega
theorem m_truL (hw : WF12 μ y) (hT : MTP f y T n) (hN : NM f y) (h : RQ f y T n q) (hO : ∀ g, MG f g y → RQ g y T n (pTru T n q).2 → K (some (.int (nI (pTru T n q).1))) (sI μ g)) : Ct X (Rm (d + 2)) mX12_truthRead [.ref y] (sI μ f) K := by
  have hRQ := h
  obtain ⟨hq, ⟨t5, br⟩ | lv⟩ := h
  · have eo : pTru T n q = (2, q) := if_neg (fun z => by have := nmW_1 (T := T) (n := n) (q := q) (by omega); omega)
    rw [eo] at hO
    exact m_truB hw br (hO f (MG.rf _ _) hRQ)
  · refine Ct_of rfl (Nat.le_of_ble_eq_true rfl) (b_X12_truthRead_0 (hw12_r0 := hw) (hK := fun c => absurd lv.1 c) (hc_nameHere := fun _ => m_nameL hw hT hN hq lv ?_))
    have e10 := nwI_10 (w := nmW T n q) nmW_le (k := 10) (z := (10 : Int32)) rfl (by decide)
    refine b_X12_truthRead_11 (hK := fun c => ?_) (hw12_r0 := hw) (hc_readsOn := fun c => ?_)
    · have eo : pTru T n q = (2, q) := if_neg (fun z => c (e10.mpr z))
      rw [eo] at hO
      exact hO f (MG.rf _ _) hRQ
    · have eo : pTru T n q = (1, tB T n q) := if_pos (e10.mp c)
      rw [eo] at hO
      exact m_read hw hT lv hq (fun g mg rq => b_X12_truthRead_20 (hO g mg rq))
theorem m_told34B {l3 : Int32} (hw : WF12 μ y) (h : BR f y n e) (hK : K (some (.int (l3 - 1))) (sI μ f)) : G X (Rm (d + 2)) mX12_toldRead 34 [(0, .ref y), (3, .int l3)] [] (sI μ f) 0 0 K :=
  b_X12_toldRead_34 hw (m_readB hw h (b_X12_toldRead_38 hK))
theorem m_toldB {o : Nat} (hw : WF12 μ y) (hT : MTP f y T n) (h : BR f y n e) (ho : o + 4 < 192) (hK : ∀ v, K (some (.int v)) (sI μ f)) : Ct X (Rm (d + 2)) mX12_toldRead [.ref y, .int (nI o)] (sI μ f) K := by
  have n0 : ¬ iv (sI μ f) y 8 = 0 := h.n0
  refine Ct_of rfl (Nat.le_of_ble_eq_true rfl) (b_X12_toldRead_0 hw (m_letterB hw hT h ?_))
  exact b_X12_toldRead_6 (j0 := o + 4) (hw12_r0 := hw) (hi_j0 := by show nI o + nI 4 + nI 0 = _; rw [nI_add, nI_add]) (hb := ho) (h := fun _ => m_told34B hw h (hK _)) (h_2 := fun c => absurd c n0) (hc_fails := fun c => absurd c n0)
theorem m_toldL {o : Nat} (hw : WF12 μ y) (hT : MTP f y T n) (h : RQ f y T n q) (ho : o + 7 ≤ 192) (hF : ∀ k, k < 192 → f (y + 3) k = nI (F k)) (hl : ∀ l, l < 3 → F (o + 4 + l) ≤ 3) (hE : ∀ g e v, pTold T n F o q = .error e → MG f g y → BR g y n e → K (some (.int v)) (sI μ g)) (hO : ∀ g r, pTold T n F o q = .ok r → MG f g y → RQ g y T n r.2 → K (some (.int (nI r.1))) (sI μ g)) : Ct X (Rm (d + 2)) mX12_toldRead [.ref y, .int (nI o)] (sI μ f) K := by
  obtain ⟨hq, ⟨t5, br⟩ | lv⟩ := h
  · have eo : pTold T n F o q = .error (1, tA T n q) := by
      unfold pTold
      rw [if_neg (fun z => by have := (o3_1 z).1; omega), rT_5 t5]
    exact m_toldB hw hT br (by omega) (fun v => hE f _ v eo (MG.rf _ _) br)
  · refine Ct_of rfl (Nat.le_of_ble_eq_true rfl) (b_X12_toldRead_0 hw (m_letterL (c := 97) hw hT hq lv (Or.inl rfl) (fun z => ?_) (fun z g mg br => ?_)))
    · have e8 : iv (sI μ f) y 8 = 0 := lv.1
      have l3 := hl _ z
      have ef : iv (sI μ f) (y + 3) (o + 4 + o3 T n q 97) = nI (F (o + 4 + o3 T n q 97)) := hF _ (by omega)
      refine b_X12_toldRead_6 (j0 := o + 4 + o3 T n q 97) (hw12_r0 := hw) (hi_j0 := by show nI o + nI 4 + nI _ = _; rw [nI_add, nI_add]) (hb := by omega) (h := fun c => absurd e8 c) (h_2 := fun _ c => ?_) (hc_fails := fun _ c => ?_)
      · rw [ef, nI_z (by omega)] at c
        have eo : pTold T n F o q = .ok (F (o + 4 + o3 T n q 97) - 1, tB T n q) := by unfold pTold; rw [if_pos z, if_neg c]
        refine b_X12_toldRead_34 hw (m_read hw hT lv hq (fun g mg rq => b_X12_toldRead_38 ?_))
        rw [ef, show (1 : Int32) = nI 1 from rfl, pk_sub (by omega)]
        exact hO g _ eo mg rq
      · rw [ef, nI_z (by omega)] at c
        have eo : pTold T n F o q = .error (4, tA T n q) := by unfold pTold; rw [if_pos z, if_pos c]
        exact m_failL (c := 4) hw hq lv (by decide) (fun g mg br => m_told34B hw br (hE g _ _ eo mg br))
    · have eo : pTold T n F o q = .error (2, tA T n q) := by unfold pTold; rw [if_neg z, rT_n lv.2.2.2.2.2]
      have n0 : ¬ iv (sI μ g) y 8 = 0 := br.n0
      exact b_X12_toldRead_6 (j0 := o + 4) (hw12_r0 := hw) (hi_j0 := by show nI o + nI 4 + nI 0 = _; rw [nI_add, nI_add]) (hb := by omega) (h := fun _ => m_told34B hw br (hE g _ _ eo mg br)) (h_2 := fun c => absurd c n0) (hc_fails := fun c => absurd c n0)
end P64
