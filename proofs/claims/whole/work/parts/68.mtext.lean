section P68
variable {X : cX} {d : Nat} {μ : mM} {K : Option Value → mM → Prop} {f g : Nat → Nat → Int32} {y q n o : Nat} {T p F : Nat → Nat} {m gr : Nat} {e : Nat × Nat} {s : pS}
/-- asking's end, from a fault on -/
theorem m_ask62B {l1 l2 : Int32} (hw : WF12 μ y) (h : BR f y n e) (hK : ∀ g, MU f g y → BR g y n e → K none (sI μ g)) : G X (Rm (d + 4)) mX12_readAsk 62 [(0, .ref y), (1, .int l1), (2, .int l2)] [] (sI μ f) 0 0 K := by
  have n0 : ¬ iv (sI μ f) y 8 = 0 := h.n0
  refine b_X12_readAsk_62 (hw12_r0 := hw) (h := fun _ => b_X12_readAsk_87 (hw12_r0 := hw) (h := fun _ => b_X12_readAsk_112 hw ?_) (h_2 := fun c => absurd c n0) (h_3 := fun c => absurd c n0) (hc_fails := fun c => absurd c n0)) (h_2 := fun c => absurd c n0) (hc_readItem := fun c => absurd c n0)
  rw [wi_sI]
  exact hK _ ⟨fun z a _ _ j => u2_x a, fun k _ => u2_x (by omega), fun j hj => u2_k (by omega)⟩ (h.fy (fun j _ _ => u2_k (by omega)))
theorem m_ask51B {l1 : Int32} {c : Nat} (hw : WF12 μ y) (hT : MTP f y T n) (hN : NM f y) (h : BR f y n e) (ho : o + 48 ≤ 192) (hl : l1 = nI o) (hc : f (y + 3) (o + 2) = nI c) (hc2 : c ≤ 12) (hK : ∀ g, MU f g y → BR g y n e → K none (sI μ g)) : G X (Rm (d + 4)) mX12_readAsk 51 [(0, .ref y), (1, .int l1)] [] (sI μ f) 0 0 K := by
  subst hl
  refine b_X12_readAsk_51 hw (m_readB hw h (b_X12_readAsk_55 hw (m_itemB hw hT hN h ho hc hc2 (fun v g fr => b_X12_readAsk_61 (m_ask62B hw (h.fy (fun j _ _ => fr y (by omega) j)) (fun g' mu br => hK g' ((mu3 fr).tr mu) br))))))
theorem PB.m1 {m' : Nat} (h : PB f y T n p F m gr) : PB (u2 f y 4 (nI m')) y T n p F m' gr := by
  obtain ⟨h1, h2, h3, h4, h5, h6⟩ := h
  exact ⟨h1.fr (u2_k (by decide)) (fun j => u2_x (by omega)), ⟨fun i hi => by rw [u2_x (by omega)]; exact h2.1 i hi, fun i hi => by rw [u2_x (by omega)]; exact h2.2 i hi⟩, fun k hk => by rw [u2_x (by omega)]; exact h3 k hk, fun k hk => by rw [u2_x (by omega)]; exact h4 k hk, u2_s _ _ _ _, by rw [u2_k (by decide)]; exact h6⟩
theorem mu4 {v : Int32} : MU f (u2 f y 4 v) y := ⟨fun z a _ _ j => u2_x a, fun k _ => u2_x (by omega), fun j hj => u2_k (by omega)⟩
theorem m_readAsk (hw : WF12 μ y) (hS : SI n s) (h : LV f y T n s.1) (hP : PB f y T n s.2.1 s.2.2.1 s.2.2.2.1 s.2.2.2.2) (hE : ∀ g e, pAskL T n s = .error e → MU f g y → BR g y n e → K none (sI μ g)) (hO : ∀ g q' F', pAskL T n s = bnd (pSgn T n 3 q') (fun q => .ok (q, s.2.1, F', s.2.2.2.1 + 1, s.2.2.2.2)) → MU f g y → RQ g y T n q' → PB g y T n s.2.1 F' (s.2.2.2.1 + 1) s.2.2.2.2 → K none (sI μ g)) (hX : ∀ g q', pAskL T n s = .error (rT T n q') → tK T n q' ≠ 3 → MU f g y → RQ g y T n q' → K none (sI μ g)) : Ct X (Rm (d + 4)) mX12_readAsk [.ref y] (sI μ f) K := by
  have hq := hS.1
  have m4 := hS.2.2.1
  have em : iv (sI μ f) y 4 = nI s.2.2.2.1 := hP.2.2.2.2.1
  have k4 : (iv (sI μ f) y 4 = (4 : Int32)) ↔ s.2.2.2.1 = 4 := by rw [em]; exact nI_eq (b := 4) (by omega) (by decide)
  unfold pAskL at hE hO hX
  by_cases z : s.2.2.2.1 = 4
  · rw [if_pos z] at hE
    refine Ct_of rfl (Nat.le_of_ble_eq_true rfl) (b_X12_readAsk_0 (hw12_r0 := hw) (hc_readsOn := fun c => absurd (k4.mpr z) c) (hc_fails := fun _ => ?_))
    exact m_failL (c := 5) hw hq h (by decide) (fun g mg br => b_X12_readAsk_13 (hE g _ rfl mg.mu br))
  rw [if_neg z] at hE hO hX
  refine Ct_of rfl (Nat.le_of_ble_eq_true rfl) (b_X12_readAsk_0 (hw12_r0 := hw) (hc_readsOn := fun _ => ?_) (hc_fails := fun c => absurd (k4.mp c) z))
  obtain ⟨o, eo⟩ : ∃ o, o = 48 * s.2.2.2.1 := ⟨_, rfl⟩
  have ho : o + 48 ≤ 192 := by omega
  have el : (48 : Int32) * iv (sI μ f) y 4 = nI o := by rw [em, eo]; exact pk_mul 48 _
  rw [el]
  rw [← eo] at hE hO hX
  have hz : ∀ k, o ≤ k → s.2.2.1 k = 0 := fun k hk => hS.2.2.2.2 k (by omega)
  have i0 : IV s.2.2.1 o 0 := IV_0 hz
  have z2 : s.2.2.1 (o + 2) = 0 := hz _ (by omega)
  -- the last words: from a good or wrong token with so many on the heap
  have L62 : ∀ (mm : Nat) (F : Nat → Nat) (h q : Nat) (g : Nat → Nat → Int32), F (o + 2) + mm = 13 → MU f g y → RQ g y T n q → PB g y T n s.2.1 F s.2.2.2.1 s.2.2.2.2 → IV F o h → (∀ g' e, bnd (pIts T n o mm q F h) (fun r3 => if r3.2.2 = 1 then bnd (pSgn T n 3 r3.1) (fun q5 => (.ok (q5, s.2.1, r3.2.1, s.2.2.2.1 + 1, s.2.2.2.2) : oE pS)) else .error (4, tA T n r3.1)) = .error e → MU f g' y → BR g' y n e → K none (sI μ g')) → (∀ g' q' F', bnd (pIts T n o mm q F h) (fun r3 => if r3.2.2 = 1 then bnd (pSgn T n 3 r3.1) (fun q5 => (.ok (q5, s.2.1, r3.2.1, s.2.2.2.1 + 1, s.2.2.2.2) : oE pS)) else .error (4, tA T n r3.1)) = bnd (pSgn T n 3 q') (fun q => .ok (q, s.2.1, F', s.2.2.2.1 + 1, s.2.2.2.2)) → MU f g' y → RQ g' y T n q' → PB g' y T n s.2.1 F' (s.2.2.2.1 + 1) s.2.2.2.2 → K none (sI μ g')) → (∀ g' q', bnd (pIts T n o mm q F h) (fun r3 => if r3.2.2 = 1 then bnd (pSgn T n 3 r3.1) (fun q5 => (.ok (q5, s.2.1, r3.2.1, s.2.2.2.1 + 1, s.2.2.2.2) : oE pS)) else .error (4, tA T n r3.1)) = .error (rT T n q') → tK T n q' ≠ 3 → MU f g' y → RQ g' y T n q' → K none (sI μ g')) → G X (Rm (d + 4)) mX12_readAsk 62 [(0, .ref y), (1, .int (nI o)), (2, .int (nI h))] [] (sI μ g) 0 0 K := by
    intro mm
    induction mm with
    | zero =>
      intro F h q g hm mu rq pb iv0 hE hO hX
      have := iv0.2.2.1
      omega
    | succ mm ih =>
      intro F h q g hm mu rq pb iv0 hE hO hX
      have hRQ := rq
      rw [pIts_s] at hE hO hX
      have hl : h ≤ F (o + 2) := by have := hg_le F o (F (o + 2)); rw [iv0.2.2.2.2.1] at this; exact this
      have i3 := iv0.2.2.1
      obtain ⟨hq1, ⟨t5, br⟩ | lv⟩ := rq
      · rw [if_neg (by omega)] at hE
        have ei : pItem T n o q F h = .error (1, tA T n q) := by
          unfold pItem
          rw [if_pos (Decidable.byContradiction fun z => by have := nmW_1 (T := T) (n := n) (q := q) (by omega); omega), rT_5 t5]
        exact m_ask62B hw br (fun g' mu' br' => hE g' _ (bnd_e (bnd_e ei)) (mu.tr mu') br')
      · have e8 : iv (sI μ g) y 8 = 0 := lv.1
        have tl := tK_le (T := T) (n := n) (q := q)
        have k1 : (iv (sI μ g) y 12 = (1 : Int32)) ↔ tK T n q = 1 := by rw [iv_sI, lv.2.2.2.1]; exact nI_eq (b := 1) (by omega) (by decide)
        have k3 : (iv (sI μ g) y 12 = (3 : Int32)) ↔ tK T n q = 3 := by rw [iv_sI, lv.2.2.2.1]; exact nI_eq (b := 3) (by omega) (by decide)
        have h1 : (nI h = (1 : Int32)) ↔ h = 1 := nI_eq (b := 1) (by omega) (by decide)
        have e4 : g y 4 = nI s.2.2.2.1 := pb.2.2.2.2.1
        have W : wi (sI μ g) y 4 (iv (sI μ g) y 4 + 1) = sI μ (u2 g y 4 (nI (s.2.2.2.1 + 1))) := by rw [iv_sI, e4, nI_1, wi_sI]
        refine b_X12_readAsk_62 (hw12_r0 := hw) (h := fun c => absurd e8 c) (h_2 := fun _ c => ?_) (hc_readItem := fun _ c => ?_)
        · rw [k1] at c
          by_cases t3 : tK T n q = 3
          · rw [if_pos t3] at hE hO
            refine b_X12_readAsk_87 (hw12_r0 := hw) (h := fun c => absurd e8 c) (h_2 := fun _ c => absurd (k3.mpr t3) c) (h_3 := fun _ _ c => b_X12_readAsk_112 hw ?_) (hc_fails := fun _ _ c => ?_)
            · rw [h1] at c
              rw [W]
              refine hO _ q F ?_ (mu.tr mu4) (hRQ.fy (fun j _ _ => u2_k (by omega))) pb.m1
              show (if h = 1 then _ else _) = _
              rw [if_pos c]
            · rw [h1] at c
              refine m_failL (c := 4) hw hq1 lv (by decide) (fun g2 mg br => b_X12_readAsk_112 hw ?_)
              rw [wi_sI]
              refine hE _ (4, tA T n q) ?_ ((mu.tr mg.mu).tr mu4) (br.fy (fun j _ _ => u2_k (by omega)))
              show (if h = 1 then _ else _) = _
              rw [if_neg c]
          · rw [if_neg t3] at hX
            have ei : pItem T n o q F h = .error (rT T n q) := by
              unfold pItem
              rw [if_pos (Decidable.byContradiction fun z => by have := nmW_1 (T := T) (n := n) (q := q) (by omega); omega)]
            refine b_X12_readAsk_87 (hw12_r0 := hw) (h := fun c => absurd e8 c) (h_2 := fun _ _ => b_X12_readAsk_112 hw ?_) (h_3 := fun _ c => absurd (k3.mp c) t3) (hc_fails := fun _ c => absurd (k3.mp c) t3)
            rw [W]
            exact hX _ q (bnd_e (bnd_e ei)) t3 (mu.tr mu4) (hRQ.fy (fun j _ _ => u2_k (by omega)))
        · rw [k1] at c
          rw [if_neg (by omega)] at hE hO hX
          refine m_itemL hw hRQ pb iv0 ho (fun g2 e2 v d1 d2 d3 => b_X12_readAsk_83 ?_) (fun g2 r d1 d2 d3 d4 => b_X12_readAsk_83 ?_)
          · exact m_ask62B hw d3 (fun g' mu' br' => hE g' _ (bnd_e (bnd_e d1)) ((mu.tr d2).tr mu') br')
          · rw [bnd_o d1] at hE hO hX
            have p1 := pItem_ok hq1 iv0 d1
            exact ih r.2.1 r.2.2 r.1 g2 (by rw [p1.2.2.2.2]; omega) (mu.tr d2) d3 d4 p1.1 hE hO hX
  refine m_read hw hP.1 h hq (fun g1 m1 r1 => b_X12_readAsk_26 hw ?_)
  have P1 := hP.mg m1
  refine m_readLetters hw ho r1 P1 i0 (hz _ (Nat.le_refl _)) z2 (fun g2 e2 d1 d2 d3 d4 => ?_) (fun g2 r d1 d2 d3 d4 => ?_)
  · have n0 : ¬ iv (sI μ g2) y 8 = 0 := d3.n0
    exact b_X12_readAsk_31 (hw12_r0 := hw) (h := fun _ => m_ask51B (c := 0) hw (P1.1.mu d2) (P1.2.1.mu d2) d3 ho rfl d4 (by decide) (fun g' mu' br' => hE g' _ (bnd_e d1) ((m1.mu.tr d2).tr mu') br')) (h_2 := fun c => absurd c n0) (hc_fails := fun c => absurd c n0)
  rw [bnd_o d1] at hE hO hX
  have pl := pLets_ok 4 _ _ r r1.1 i0 z2 d1
  have e02 : g2 (y + 3) (o + 2) = nI 0 := by rw [d4.2.2.2.1 _ (by omega), pl.2.1]
  have hR2 := d3
  obtain ⟨hq2, ⟨t5, br⟩ | lv⟩ := d3
  · have n0 : ¬ iv (sI μ g2) y 8 = 0 := br.n0
    have ep : pSgn T n 4 r.1 = .error (1, tA T n r.1) := by unfold pSgn; rw [if_neg (by omega), rT_5 t5]
    exact b_X12_readAsk_31 (hw12_r0 := hw) (h := fun _ => m_ask51B (c := 0) hw d4.1 d4.2.1 br ho rfl e02 (by decide) (fun g' mu' br' => hE g' _ (bnd_e ep) ((m1.mu.tr d2).tr mu') br')) (h_2 := fun c => absurd c n0) (hc_fails := fun c => absurd c n0)
  · have e8 : iv (sI μ g2) y 8 = 0 := lv.1
    have tl := tK_le (T := T) (n := n) (q := r.1)
    have k4 : (iv (sI μ g2) y 12 = (4 : Int32)) ↔ tK T n r.1 = 4 := by rw [iv_sI, lv.2.2.2.1]; exact nI_eq (b := 4) (by omega) (by decide)
    refine b_X12_readAsk_31 (hw12_r0 := hw) (h := fun c => absurd e8 c) (h_2 := fun _ c => b_X12_readAsk_51 hw ?_) (hc_fails := fun _ c => ?_)
    · rw [k4] at c
      have ep : pSgn T n 4 r.1 = .ok (tB T n r.1) := if_pos c
      rw [bnd_o ep] at hE hO hX
      refine m_read hw d4.1 lv hq2 (fun g3 m3 r3 => b_X12_readAsk_55 hw ?_)
      have P3 := d4.mg m3
      have mu3' := (m1.mu.tr d2).tr m3.mu
      refine m_itemL (h := 0) hw r3 P3 pl.1 ho (fun g4 e2 v d1 d2 d3 => b_X12_readAsk_61 ?_) (fun g4 r2 d1 d2 d3 d4 => b_X12_readAsk_61 ?_)
      · exact m_ask62B hw d3 (fun g' mu' br' => hE g' _ (bnd_e d1) ((mu3'.tr d2).tr mu') br')
      · rw [bnd_o d1] at hE hO hX
        have p1 := pItem_ok r3.1 pl.1 d1
        exact L62 12 r2.2.1 r2.2.2 r2.1 g4 (by rw [p1.2.2.2.2, pl.2.1]) (mu3'.tr d2) d3 d4 p1.1 hE hO hX
    · rw [k4] at c
      have ep : pSgn T n 4 r.1 = .error (2, tA T n r.1) := by unfold pSgn; rw [if_neg c, rT_n lv.2.2.2.2.2]
      refine m_failL (c := 2) hw hq2 lv (by decide) (fun g3 mg br => ?_)
      have P3 := d4.mg mg
      exact m_ask51B (c := 0) hw P3.1 P3.2.1 br ho rfl (by rw [mg.1 _ (by omega)]; exact e02) (by decide) (fun g' mu' br' => hE g' _ (bnd_e ep) (((m1.mu.tr d2).tr mg.mu).tr mu') br')
theorem m_readLine (hw : WF12 μ y) (hS : SI n s) (h : LV f y T n s.1) (hP : PB f y T n s.2.1 s.2.2.1 s.2.2.2.1 s.2.2.2.2) (hE : ∀ g e, pLine T n s = .error e → MU f g y → BR g y n e → K none (sI μ g)) (hO : ∀ g r, pLine T n s = .ok r → MU f g y → RQ g y T n r.1 → PB g y T n r.2.1 r.2.2.1 r.2.2.2.1 r.2.2.2.2 → K none (sI μ g)) : Ct X (Rm (d + 5)) mX12_readLine [.ref y] (sI μ f) K := by
  have hq := hS.1
  have c8 := nwI_10 (w := nmW T n s.1) nmW_le (k := 8) (z := (8 : Int32)) rfl (by decide)
  have c4 := nwI_10 (w := nmW T n s.1) nmW_le (k := 4) (z := (4 : Int32)) rfl (by decide)
  have c0 := nwI_10 (w := nmW T n s.1) nmW_le (k := 0) (z := (0 : Int32)) rfl (by decide)
  have c2 := nwI_10 (w := nmW T n s.1) nmW_le (k := 2) (z := (2 : Int32)) rfl (by decide)
  have c9 := nwI_10 (w := nmW T n s.1) nmW_le (k := 9) (z := (9 : Int32)) rfl (by decide)
  -- behind a line whose sign is yet to be read
  have SG : ∀ g q' p' F' m' gr', pLine T n s = bnd (pSgn T n 3 q') (fun q => .ok (q, p', F', m', gr')) → MU f g y → RQ g y T n q' → PB g y T n p' F' m' gr' → G X (Rm (d + 5)) mX12_readLine 76 [(0, .ref y)] [] (sI μ g) 0 0 K := fun g q' p' F' m' gr' ep mu rq pb =>
    m_sign hw pb.1 rq (fun g2 e2 d1 d2 d3 => hE g2 e2 (by rw [ep]; exact bnd_e d1) (mu.tr d2.mu) d3) (fun g2 r d1 d2 d3 => hO g2 _ (by rw [ep]; exact bnd_o d1) (mu.tr d2.mu) d3 (pb.mg d2))
  have SB : ∀ g e, pLine T n s = .error e → MU f g y → BR g y n e → G X (Rm (d + 5)) mX12_readLine 76 [(0, .ref y)] [] (sI μ g) 0 0 K := fun g e ep mu br => m_signB hw br (hE g e ep mu br)
  have NODE : ∀ b, b ≤ 1 → pLine T n s = pNodeL T n b s → G X (Rm (d + 5)) mX12_readLine 27 [(0, .ref y)] [.int (nI b), .ref y] (sI μ f) 0 0 K := fun b hb el => by
    refine b_X12_readLine_27 hw (m_readNode (d := d + 2) (b := b) hw hq h hP hS.2.1.1.1 (fun z g mu br => b_X12_readLine_30 (SB g _ (el.trans (if_pos z)) mu br)) (fun z g mu rq pb => b_X12_readLine_30 (SG g _ _ _ _ _ (el.trans (if_neg z)) mu rq pb)))
  have TOLD : ∀ (b : Nat), (b = 1 ∧ pLine T n s = pAtL T n s) ∨ (b = 0 ∧ pLine T n s = pNextL T n s) → G X (Rm (d + 5)) mX12_readLine 52 [(0, .ref y)] [.int (nI b), .ref y] (sI μ f) 0 0 K := fun b hb => by
    rcases hb with ⟨hb, el⟩ | ⟨hb, el⟩
    · subst hb
      exact b_X12_readLine_52 hw (m_readAt (d := d + 1) hw hq h hP hS.2.1.1.2 (fun g e ep mu br => b_X12_readLine_55 (SB g e (el.trans ep) mu br)) (fun g q' p' gr' ep mu rq pb => b_X12_readLine_55 (SG g _ _ _ _ _ (el.trans ep) mu rq pb)))
    · subst hb
      exact b_X12_readLine_52 hw (m_readNext (d := d + 1) hw hq h hP hS.2.1.1.2 (fun g e ep mu br => b_X12_readLine_55 (SB g e (el.trans ep) mu br)) (fun g q' p' gr' ep mu rq pb => b_X12_readLine_55 (SG g _ _ _ _ _ (el.trans ep) mu rq pb)))
  refine Ct_of rfl (Nat.le_of_ble_eq_true rfl) (b_X12_readLine_0 hw (m_nameL (d := d + 3) hw hP.1 hP.2.1 hq h ?_))
  refine b_X12_readLine_4 (h := fun z => ?_) (h_2 := fun z1 z2 z3 => ?_) (hw12_r0 := hw) (hc_fails := fun z1 z2 z3 z4 z5 => ?_) (hc_readAsk := fun z1 z2 z3 z4 z5 => ?_) (h_3 := fun z1 z2 z3 z4 => ?_) (h_4 := fun z1 z2 => ?_)
  · rw [c8] at z
    have el : pLine T n s = pNodeL T n 0 s := by unfold pLine; rw [if_pos z]
    exact b_X12_readLine_16 (h := fun _ => NODE 0 (by decide) el) (h_2 := fun c => by rw [c4] at c; omega)
  · rw [c8] at z1; rw [c4] at z2; rw [c0] at z3
    have el : pLine T n s = pAtL T n s := by unfold pLine; rw [if_neg z1, if_neg z2, if_pos z3]
    exact b_X12_readLine_42 (h := fun c => absurd (c0.mpr z3) c) (h_2 := fun _ => TOLD 1 (Or.inl ⟨rfl, el⟩))
  · rw [c8] at z1; rw [c4] at z2; rw [c0] at z3; rw [c2] at z4; rw [c9] at z5
    have el : pLine T n s = .error (2, tA T n s.1) := by unfold pLine; rw [if_neg z1, if_neg z2, if_neg z3, if_neg z4, if_neg z5, rT_n h.2.2.2.2.2]
    exact m_failL (c := 2) hw hq h (by decide) (fun g mg br => SB g _ el mg.mu br)
  · rw [c8] at z1; rw [c4] at z2; rw [c0] at z3; rw [c2] at z4; rw [c9] at z5
    have el : pLine T n s = pAskL T n s := by unfold pLine; rw [if_neg z1, if_neg z2, if_neg z3, if_neg z4, if_pos z5]
    refine m_readAsk hw hS h hP (fun g e ep mu br => b_X12_readLine_68 (SB g e (el.trans ep) mu br)) (fun g q' F' ep mu rq pb => b_X12_readLine_68 (SG g _ _ _ _ _ (el.trans ep) mu rq pb)) (fun g q' ep t3 mu rq => b_X12_readLine_68 ?_)
    refine m_sign hw (hP.1.mu mu) rq (fun g2 e2 d1 d2 d3 => ?_) (fun g2 r d1 d2 d3 => ?_)
    · have eq : e2 = rT T n q' := by
        unfold pSgn at d1
        rw [if_neg t3] at d1
        injection d1 with d1
        exact d1.symm
      exact hE g2 e2 (by rw [eq]; exact el.trans ep) (mu.tr d2.mu) d3
    · unfold pSgn at d1
      rw [if_neg t3] at d1
      exact absurd d1 (by intro w; injection w)
  · rw [c8] at z1; rw [c4] at z2; rw [c0] at z3; rw [c2] at z4
    have el : pLine T n s = pNextL T n s := by unfold pLine; rw [if_neg z1, if_neg z2, if_neg z3, if_pos z4]
    exact b_X12_readLine_42 (h := fun _ => TOLD 0 (Or.inr ⟨rfl, el⟩)) (h_2 := fun c => absurd (c0.mp c) z3)
  · rw [c8] at z1; rw [c4] at z2
    have el : pLine T n s = pNodeL T n 1 s := by unfold pLine; rw [if_neg z1, if_pos z2]
    exact b_X12_readLine_16 (h := fun c => absurd (c4.mpr z2) c) (h_2 := fun _ => NODE 1 (by decide) el)
end P68
