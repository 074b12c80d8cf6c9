/-- what a text may change of the reference while it is read -/
def MU (f g : Nat → Nat → Int32) (y : Nat) : Prop := (∀ z, z ≠ y → z ≠ y + 1 → z ≠ y + 3 → ∀ j, g z j = f z j) ∧ (∀ k, (k < 183 ∨ 244 ≤ k) → g (y + 1) k = f (y + 1) k) ∧ ∀ j, (j < 4 ∨ (5 ≤ j ∧ j < 8) ∨ 15 ≤ j) → g y j = f y j
theorem MU.rf (f : Nat → Nat → Int32) (y : Nat) : MU f f y := ⟨fun _ _ _ _ _ => rfl, fun _ _ => rfl, fun _ _ => rfl⟩
theorem MU.tr {f g h : Nat → Nat → Int32} {y : Nat} (h1 : MU f g y) (h2 : MU g h y) : MU f h y := ⟨fun z a b c j => (h2.1 z a b c j).trans (h1.1 z a b c j), fun k a => (h2.2.1 k a).trans (h1.2.1 k a), fun j a => (h2.2.2 j a).trans (h1.2.2 j a)⟩
theorem MG.mu {f g : Nat → Nat → Int32} {y : Nat} (h : MG f g y) : MU f g y := ⟨fun z a _ _ j => h.1 z a j, fun k _ => h.1 _ (by omega) k, fun j a => h.2 j (by omega)⟩
theorem MN.mu {f g : Nat → Nat → Int32} {y m : Nat} (h : MN f g y m) : MU f g y := ⟨fun z a _ _ j => h.1 z a j, fun k _ => h.1 _ (by omega) k, fun j a => h.2.1 j (by omega)⟩
/-- what the reference has read -/
def PB (f : Nat → Nat → Int32) (y : Nat) (T : Nat → Nat) (n : Nat) (p F : Nat → Nat) (m g : Nat) : Prop := MTP f y T n ∧ NM f y ∧ Pg f y 183 p ∧ (∀ k, k < 192 → f (y + 3) k = nI (F k)) ∧ f y 4 = nI m ∧ f y 14 = nI g
section P65
variable {X : cX} {d : Nat} {μ : mM} {K : Option Value → mM → Prop} {f g : Nat → Nat → Int32} {y q n : Nat} {T p F : Nat → Nat} {m gr : Nat} {e : Nat × Nat}
theorem PB.mg (h : PB f y T n p F m gr) (hg : MG f g y) : PB g y T n p F m gr := by
  obtain ⟨h1, h2, h3, h4, h5, h6⟩ := h
  exact ⟨h1.mg hg, h2.mg hg, fun k hk => by rw [hg.1 _ (by omega)]; exact h3 k hk, fun k hk => by rw [hg.1 _ (by omega)]; exact h4 k hk, by rw [hg.2 4 (by decide)]; exact h5, by rw [hg.2 14 (by decide)]; exact h6⟩
theorem PB.mn {m' : Nat} (h : PB f y T n p F m gr) (hg : MN f g y m') : PB g y T n p F m m' := by
  obtain ⟨h1, h2, h3, h4, h5, h6⟩ := h
  exact ⟨h1.mn hg, h2.mn hg, fun k hk => by rw [hg.1 _ (by omega)]; exact h3 k hk, fun k hk => by rw [hg.1 _ (by omega)]; exact h4 k hk, by rw [hg.2.1 4 (by decide)]; exact h5, hg.2.2⟩
/-- the reference's own fields are the same -/
theorem RQ.fy (h : RQ f y T n q) (hy : ∀ j, 8 ≤ j → j < 14 → g y j = f y j) : RQ g y T n q := by
  obtain ⟨hq, h⟩ := h
  refine ⟨hq, ?_⟩
  rcases h with ⟨t5, b1, b2, b3, h', s', k', e1, e2, e3, e4, e5, e6⟩ | lv
  · exact Or.inl ⟨t5, by rw [hy 8 (by decide) (by decide)]; exact b1, b2, by rw [hy 9 (by decide) (by decide)]; exact b3, h', s', k', by rw [hy 11 (by decide) (by decide)]; exact e1, by rw [hy 10 (by decide) (by decide)]; exact e2, by rw [hy 12 (by decide) (by decide)]; exact e3, e4, e5, e6⟩
  · exact Or.inr ⟨by rw [hy 8 (by decide) (by decide)]; exact lv.1, by rw [hy 10 (by decide) (by decide)]; exact lv.2.1, by rw [hy 11 (by decide) (by decide)]; exact lv.2.2.1, by rw [hy 12 (by decide) (by decide)]; exact lv.2.2.2.1, fun w => by rw [hy 13 (by decide) (by decide)]; exact lv.2.2.2.2.1 w, lv.2.2.2.2.2⟩
theorem BR.fy (h : BR f y n e) (hy : ∀ j, 8 ≤ j → j < 14 → g y j = f y j) : BR g y n e := by
  obtain ⟨b1, b2, b3, h', s', k', e1, e2, e3, e4, e5, e6⟩ := h
  exact ⟨by rw [hy 8 (by decide) (by decide)]; exact b1, b2, by rw [hy 9 (by decide) (by decide)]; exact b3, h', s', k', by rw [hy 11 (by decide) (by decide)]; exact e1, by rw [hy 10 (by decide) (by decide)]; exact e2, by rw [hy 12 (by decide) (by decide)]; exact e3, e4, e5, e6⟩
/-- the sign at a line's end -/
theorem m_sign (hw : WF12 μ y) (hT : MTP f y T n) (h : RQ f y T n q) (hE : ∀ g e, pSgn T n 3 q = .error e → MG f g y → BR g y n e → K none (sI μ g)) (hO : ∀ g r, pSgn T n 3 q = .ok r → MG f g y → RQ g y T n r → K none (sI μ g)) : G X (Rm (d + 5)) mX12_readLine 76 [(0, .ref y)] [] (sI μ f) 0 0 K := by
  obtain ⟨hq, ⟨t5, br⟩ | lv⟩ := h
  · have n0 : ¬ iv (sI μ f) y 8 = 0 := br.n0
    have eo : pSgn T n 3 q = .error (1, tA T n q) := by unfold pSgn; rw [if_neg (by omega), rT_5 t5]
    exact b_X12_readLine_76 (hw12_r0 := hw) (h := fun _ => b_X12_readLine_96 hw (m_readB hw br (b_X12_readLine_100 (hE f _ eo (MG.rf _ _) br)))) (h_2 := fun c => absurd c n0) (hc_fails := fun c => absurd c n0)
  · have e8 : iv (sI μ f) y 8 = 0 := lv.1
    have tl := tK_le (T := T) (n := n) (q := q)
    have k3 : (iv (sI μ f) y 12 = (3 : Int32)) ↔ tK T n q = 3 := by rw [iv_sI, lv.2.2.2.1]; exact nI_eq (b := 3) (by omega) (by decide)
    refine b_X12_readLine_76 (hw12_r0 := hw) (h := fun c => absurd e8 c) (h_2 := fun _ c => b_X12_readLine_96 hw ?_) (hc_fails := fun _ c => ?_)
    · rw [k3] at c
      have eo : pSgn T n 3 q = .ok (tB T n q) := if_pos c
      exact m_read hw hT lv hq (fun g mg rq => b_X12_readLine_100 (hO g _ eo mg rq))
    · rw [k3] at c
      have eo : pSgn T n 3 q = .error (2, tA T n q) := by unfold pSgn; rw [if_neg c, rT_n lv.2.2.2.2.2]
      exact m_failL (c := 2) hw hq lv (by decide) (fun g mg br => b_X12_readLine_96 hw (m_readB hw br (b_X12_readLine_100 (hE g _ eo mg br))))
theorem m_signB (hw : WF12 μ y) (h : BR f y n e) (hK : K none (sI μ f)) : G X (Rm (d + 5)) mX12_readLine 76 [(0, .ref y)] [] (sI μ f) 0 0 K := by
  have n0 : ¬ iv (sI μ f) y 8 = 0 := h.n0
  exact b_X12_readLine_76 (hw12_r0 := hw) (h := fun _ => b_X12_readLine_96 hw (m_readB hw h (b_X12_readLine_100 hK))) (h_2 := fun c => absurd c n0) (hc_fails := fun c => absurd c n0)
theorem Pg.u1 {P k v : Nat} (h : Pg f y P p) (hk : k < 61) : Pg (u2 f (y + 1) (P + k) (nI v)) y P (upd1 p k v) := fun j hj => by
  by_cases c : j = k
  · rw [c, u2_s, upd1_s]
  · rw [u2_k (by omega), upd1_n c]; exact h j hj
theorem Pg.cg {P : Nat} {p' : Nat → Nat} (h : Pg f y P p) (he : ∀ k, k < 61 → p' k = p k) : Pg f y P p' := fun k hk => by rw [he k hk]; exact h k hk
/-- the page alone has changed -/
theorem PB.pg {p' : Nat → Nat} (h : PB f y T n p F m gr) (hf : ∀ z, z ≠ y + 1 → ∀ j, g z j = f z j) (hp : Pg g y 183 p') : PB g y T n p' F m gr := by
  obtain ⟨h1, h2, h3, h4, h5, h6⟩ := h
  exact ⟨h1.fr (hf _ (by omega) 6) (fun j => hf _ (by omega) j), ⟨fun i hi => by rw [hf _ (by omega)]; exact h2.1 i hi, fun i hi => by rw [hf _ (by omega)]; exact h2.2 i hi⟩, hp, fun k hk => by rw [hf _ (by omega)]; exact h4 k hk, by rw [hf _ (by omega)]; exact h5, by rw [hf _ (by omega)]; exact h6⟩
theorem m_readNode {b : Nat} (hw : WF12 μ y) (hq : q ≤ n) (h : LV f y T n q) (hP : PB f y T n p F m gr) (h6 : p 60 ≤ 6) (hE : p 60 = 6 → ∀ g, MU f g y → BR g y n (5, tA T n q) → K none (sI μ g)) (hO : p 60 ≠ 6 → ∀ g, MU f g y → RQ g y T n (tB T n q) → PB g y T n (app p b) F m gr → K none (sI μ g)) : Ct X (Rm (d + 2)) mX12_readNode [.ref y, .int (nI b)] (sI μ f) K := by
  have e60 : iv (sI μ f) (y + 1) 243 = nI (p 60) := hP.2.2.1 60 (by decide)
  have k6 : (iv (sI μ f) (y + 1) 243 = (6 : Int32)) ↔ p 60 = 6 := by rw [e60]; exact nI_eq (b := 6) (by omega) (by decide)
  refine Ct_of rfl (Nat.le_of_ble_eq_true rfl) (b_X12_readNode_0 (hw12_r0 := hw) (hc_readsOn := fun c => ?_) (hc_fails := fun c => ?_))
  · rw [k6] at c
    refine m_read hw hP.1 h hq (fun g mg rq => ?_)
    have hP2 := hP.mg mg
    rw [e60]
    refine b_X12_readNode_25 (j0 := 183 + p 60) (hw12_r0 := hw) (hi_j0 := by rw [show (183 : Int32) = nI 183 from rfl, nI_add]) (hb := by omega) (hK := ?_)
    have e1 : u2 g (y + 1) (183 + p 60) (nI b) (y + 1) 243 = nI (p 60) := by rw [u2_k (by omega)]; exact hP2.2.2.1 60 (by decide)
    rw [wi_sI, iv_sI, e1, nI_1, wi_sI]
    have pg : Pg (u2 (u2 g (y + 1) (183 + p 60) (nI b)) (y + 1) (183 + 60) (nI (p 60 + 1))) y 183 (app p b) := by
      refine ((hP2.2.2.1.u1 (k := p 60) (v := b) (by omega)).u1 (k := 60) (v := p 60 + 1) (by decide)).cg (fun k hk => ?_)
      rfl
    have fr : ∀ z, z ≠ y + 1 → ∀ j, u2 (u2 g (y + 1) (183 + p 60) (nI b)) (y + 1) (183 + 60) (nI (p 60 + 1)) z j = g z j := fun z hz j => by rw [u2_x hz, u2_x hz]
    refine hO c _ (mg.mu.tr ⟨fun z _ b _ j => fr z b j, fun k hk => by rw [u2_k (by omega), u2_k (by omega)], fun j _ => fr y (by omega) j⟩) (rq.fy (fun j _ _ => fr y (by omega) j)) (hP2.pg fr pg)
  · rw [k6] at c
    exact m_failL (c := 5) hw hq h (by decide) (fun g mg br => b_X12_readNode_20 (hE c g mg.mu br))
/-- the write at the end of what is told -/
theorem m_told49 {B i j t : Nat} {l1 : Int32} (hw : WF12 μ y) (hB : (l1 = 0 → B = 24) ∧ (¬ l1 = 0 → B = 6)) (hi : B + 6 * i + j < 60) (hK : ∀ g, g = u2 f (y + 1) (183 + (B + 6 * i + j)) (nI t) → MU f g y → K none (sI μ g)) : G X (Rm (d + 3)) mX12_readTold 29 [(0, .ref y), (1, .int l1), (2, .int (nI i)), (3, .int (nI j))] [.int (nI t)] (sI μ f) 0 0 K := by
  have A : ∀ b, b = B → G X (Rm (d + 3)) mX12_readTold 49 [(2, .int (nI i)), (3, .int (nI j)), (4, .int (nI t))] [.int (nI b), .int 183, .ref (y + 1)] (sI μ f) 0 0 K := fun b hb => by
    refine b_X12_readTold_49 (n0 := 366) (j0 := 183 + (B + 6 * i + j)) (hk_q0 := w12_k0 hw) (hi_j0 := ?_) (hb := by omega) (hK := ?_)
    · rw [hb, show (183 : Int32) = nI 183 from rfl, show (6 : Int32) = nI 6 from rfl, pk_mul, nI_add, nI_add, nI_add, show 183 + B + 6 * i + j = 183 + (B + 6 * i + j) by omega]
    · rw [wi_sI]
      exact hK _ rfl ⟨fun z _ b _ j => u2_x b, fun k hk => u2_k (by omega), fun j _ => u2_x (by omega)⟩
  exact b_X12_readTold_29 (hw12_r0 := hw) (h := fun c => A 24 (hB.1 c).symm) (h_2 := fun c => A 6 (hB.2 c).symm)
/-- from a fault on -/
theorem m_told19B {B i : Nat} {l1 : Int32} (hw : WF12 μ y) (h : BR f y n e) (hB : (l1 = 0 → B = 24) ∧ (¬ l1 = 0 → B = 6)) (hi : B + 6 * i < 60) (hK : ∀ g, MU f g y → BR g y n e → K none (sI μ g)) : G X (Rm (d + 3)) mX12_readTold 19 [(0, .ref y), (1, .int l1)] [.int (nI i)] (sI μ f) 0 0 K :=
  b_X12_readTold_19 hw (m_nodB hw h (b_X12_readTold_24 hw (m_truB hw h (m_told49 (B := B) (i := i) (j := 0) (t := 2) hw hB (by omega) (fun g eg mu => hK g mu (h.fy (fun j _ _ => by rw [eg, u2_x (by omega)])))))))
theorem m_told24B {B i : Nat} {l1 : Int32} (hw : WF12 μ y) (h : BR f y n e) (hB : (l1 = 0 → B = 24) ∧ (¬ l1 = 0 → B = 6)) (hi : B + 6 * i < 60) (hK : ∀ g, MU f g y → BR g y n e → K none (sI μ g)) : G X (Rm (d + 3)) mX12_readTold 24 [(0, .ref y), (1, .int l1), (2, .int (nI i))] [.int 0] (sI μ f) 0 0 K :=
  b_X12_readTold_24 hw (m_truB hw h (m_told49 (B := B) (i := i) (j := 0) (t := 2) hw hB (by omega) (fun g eg mu => hK g mu (h.fy (fun j _ _ => by rw [eg, u2_x (by omega)])))))
theorem m_readAt {s : pS} (hw : WF12 μ y) (hq : s.1 ≤ n) (h : LV f y T n s.1) (hP : PB f y T n s.2.1 s.2.2.1 s.2.2.2.1 s.2.2.2.2) (hg6 : s.2.2.2.2 ≤ 6) (hE : ∀ g e, pAtL T n s = .error e → MU f g y → BR g y n e → K none (sI μ g)) (hO : ∀ g q' p' gr', pAtL T n s = bnd (pSgn T n 3 q') (fun q => .ok (q, p', s.2.2.1, s.2.2.2.1, gr')) → MU f g y → RQ g y T n q' → PB g y T n p' s.2.2.1 s.2.2.2.1 gr' → K none (sI μ g)) : Ct X (Rm (d + 3)) mX12_readTold [.ref y, .int 1] (sI μ f) K := by
  have hB : ((1 : Int32) = 0 → (6 : Nat) = 24) ∧ (¬ (1 : Int32) = 0 → (6 : Nat) = 6) := ⟨fun c => absurd c (by decide), fun _ => rfl⟩
  unfold pAtL at hE hO
  refine Ct_of rfl (Nat.le_of_ble_eq_true rfl) (b_X12_readTold_0 hw (m_read hw hP.1 h hq (fun g1 m1 r1 => ?_)))
  have P1 := hP.mg m1
  refine b_X12_readTold_4 (hw12_r0 := hw) (hc_nodeRead := fun c => absurd c (by decide)) (hc_variableRead := fun _ => ?_)
  refine m_varL hw P1.1 r1 (fun g e e1 mg br => ?_) (fun g2 v e1 v3 m2 r2 => ?_)
  · exact b_X12_readTold_12 (m_told19B (B := 6) (i := 0) hw br hB (by decide) (fun g' mu br' => hE g' e (bnd_e e1) ((m1.mu.tr mg.mu).tr mu) br'))
  rw [bnd_o e1] at hE hO
  have P2 := P1.mg m2
  refine b_X12_readTold_12 (b_X12_readTold_19 hw ?_)
  refine m_nodL hw P2.1 r2 P2.2.2.2.2.2 hg6 (fun g e e1 mg br => ?_) (fun g3 i e1 i6 m3 r3 => ?_)
  · exact m_told24B (B := 6) (i := v.1) hw br hB (by omega) (fun g' mu br' => hE g' e (bnd_e e1) (((m1.mu.tr m2.mu).tr mg.mu).tr mu) br')
  rw [bnd_o e1] at hO
  have P3 := P2.mn m3
  refine b_X12_readTold_24 hw (m_truL hw P3.1 P3.2.1 r3 (fun g4 m4 r4 => ?_))
  have P4 := P3.mg m4
  refine m_told49 (B := 6) (i := v.1) (j := i.1) hw hB (by omega) (fun g5 eg mu => ?_)
  have fr : ∀ z, z ≠ y + 1 → ∀ j, g5 z j = g4 z j := fun z hz j => by rw [eg, u2_x hz]
  have pg : Pg g5 y 183 (upd1 s.2.1 (6 + 6 * v.1 + i.1) (pTru T n i.2).1) := by rw [eg]; exact P4.2.2.1.u1 (by omega)
  exact hO g5 _ _ _ rfl ((((m1.mu.tr m2.mu).tr m3.mu).tr m4.mu).tr mu) (r4.fy (fun j _ _ => fr y (by omega) j)) (P4.pg fr pg)
theorem m_readNext {s : pS} (hw : WF12 μ y) (hq : s.1 ≤ n) (h : LV f y T n s.1) (hP : PB f y T n s.2.1 s.2.2.1 s.2.2.2.1 s.2.2.2.2) (hg6 : s.2.2.2.2 ≤ 6) (hE : ∀ g e, pNextL T n s = .error e → MU f g y → BR g y n e → K none (sI μ g)) (hO : ∀ g q' p' gr', pNextL T n s = bnd (pSgn T n 3 q') (fun q => .ok (q, p', s.2.2.1, s.2.2.2.1, gr')) → MU f g y → RQ g y T n q' → PB g y T n p' s.2.2.1 s.2.2.2.1 gr' → K none (sI μ g)) : Ct X (Rm (d + 3)) mX12_readTold [.ref y, .int 0] (sI μ f) K := by
  have hB : ((0 : Int32) = 0 → (24 : Nat) = 24) ∧ (¬ (0 : Int32) = 0 → (24 : Nat) = 6) := ⟨fun _ => rfl, fun c => absurd rfl c⟩
  unfold pNextL at hE hO
  refine Ct_of rfl (Nat.le_of_ble_eq_true rfl) (b_X12_readTold_0 hw (m_read hw hP.1 h hq (fun g1 m1 r1 => ?_)))
  have P1 := hP.mg m1
  refine b_X12_readTold_4 (hw12_r0 := hw) (hc_nodeRead := fun _ => ?_) (hc_variableRead := fun c => absurd rfl c)
  refine m_nodL hw P1.1 r1 P1.2.2.2.2.2 hg6 (fun g e e1 mg br => ?_) (fun g2 v e1 v3 m2 r2 => ?_)
  · exact m_told19B (B := 24) (i := 0) hw br hB (by decide) (fun g' mu br' => hE g' e (bnd_e e1) ((m1.mu.tr mg.mu).tr mu) br')
  rw [bnd_o e1] at hE hO
  have P2 := P1.mn m2
  refine b_X12_readTold_19 hw ?_
  refine m_nodL hw P2.1 r2 P2.2.2.2.2.2 (by omega) (fun g e e1 mg br => ?_) (fun g3 i e1 i6 m3 r3 => ?_)
  · exact m_told24B (B := 24) (i := v.1) hw br hB (by omega) (fun g' mu br' => hE g' e (bnd_e e1) (((m1.mu.tr m2.mu).tr mg.mu).tr mu) br')
  rw [bnd_o e1] at hO
  have P3 := P2.mn m3
  refine b_X12_readTold_24 hw (m_truL hw P3.1 P3.2.1 r3 (fun g4 m4 r4 => ?_))
  have P4 := P3.mg m4
  refine m_told49 (B := 24) (i := v.1) (j := i.1) hw hB (by omega) (fun g5 eg mu => ?_)
  have fr : ∀ z, z ≠ y + 1 → ∀ j, g5 z j = g4 z j := fun z hz j => by rw [eg, u2_x hz]
  have pg : Pg g5 y 183 (upd1 s.2.1 (24 + 6 * v.1 + i.1) (pTru T n i.2).1) := by rw [eg]; exact P4.2.2.1.u1 (by omega)
  exact hO g5 _ _ _ rfl ((((m1.mu.tr m2.mu).tr m3.mu).tr m4.mu).tr mu) (r4.fy (fun j _ _ => fr y (by omega) j)) (P4.pg fr pg)
end P65
