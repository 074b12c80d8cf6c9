section P66
variable {X : cX} {d : Nat} {μ : mM} {K : Option Value → mM → Prop} {f g : Nat → Nat → Int32} {y q n o : Nat} {T p F : Nat → Nat} {m gr : Nat} {e : Nat × Nat}
theorem MTP.mu (h : MTP f y T n) (hg : MU f g y) : MTP g y T n := h.fr (hg.2.2 6 (by omega)) (fun j => hg.1 _ (by omega) (by omega) (by omega) j)
theorem NM.mu (h : NM f y) (hg : MU f g y) : NM g y := ⟨fun i hi => by rw [hg.1 _ (by omega) (by omega) (by omega)]; exact h.1 i hi, fun i hi => by rw [hg.1 _ (by omega) (by omega) (by omega)]; exact h.2 i hi⟩
/-- the formulas alone have changed -/
theorem PB.f3 {F' : Nat → Nat} (h : PB f y T n p F m gr) (hf : ∀ z, z ≠ y + 3 → ∀ j, g z j = f z j) (hp : ∀ k, k < 192 → g (y + 3) k = nI (F' k)) : PB g y T n p F' m gr := by
  obtain ⟨h1, h2, h3, h4, h5, h6⟩ := h
  exact ⟨h1.fr (hf _ (by omega) 6) (fun j => hf _ (by omega) j), ⟨fun i hi => by rw [hf _ (by omega)]; exact h2.1 i hi, fun i hi => by rw [hf _ (by omega)]; exact h2.2 i hi⟩, fun k hk => by rw [hf _ (by omega)]; exact h3 k hk, hp, by rw [hf _ (by omega)]; exact h5, by rw [hf _ (by omega)]; exact h6⟩
theorem mu3 (hf : ∀ z, z ≠ y + 3 → ∀ j, g z j = f z j) : MU f g y := ⟨fun z _ _ c j => hf z c j, fun k _ => hf _ (by omega) k, fun j _ => hf _ (by omega) j⟩
theorem up3 {j v : Nat} (h : ∀ k, k < 192 → f (y + 3) k = nI (F k)) : ∀ k, k < 192 → u2 f (y + 3) j (nI v) (y + 3) k = nI (upd1 F j v k) := fun k hk => by
  by_cases c : k = j
  · rw [c, u2_s, upd1_s]
  · rw [u2_k c, upd1_n c]; exact h k hk
theorem m_let124B (hw : WF12 μ y) (hT : MTP f y T n) (hN : NM f y) (h : BR f y n e) (hK : K none (sI μ f)) : G X (Rm (d + 2)) mX12_readLetters 124 [(0, .ref y), (1, .int (nI o))] [] (sI μ f) 0 0 K := by
  have n0 : ¬ iv (sI μ f) y 8 = 0 := h.n0
  exact b_X12_readLetters_124 hw (m_readB hw h (b_X12_readLetters_128 hw (m_nameB hw hT hN h (fun w _ => b_X12_readLetters_132 (b_X12_readLetters_5 (hw12_r0 := hw) (hK := fun _ => hK) (h := fun c => absurd c n0) (hK_2 := fun c => absurd c n0) (h_2 := fun c => absurd c n0))))))
theorem m_let60B {l2 l3 : Int32} (hw : WF12 μ y) (hT : MTP f y T n) (hN : NM f y) (h : BR f y n e) (hK : K none (sI μ f)) : G X (Rm (d + 2)) mX12_readLetters 60 [(0, .ref y), (1, .int (nI o)), (2, .int l2), (3, .int l3)] [] (sI μ f) 0 0 K := by
  have n0 : ¬ iv (sI μ f) y 8 = 0 := h.n0
  exact b_X12_readLetters_60 (j0 := 0) (hw12_r0 := hw) (h := fun _ => m_let124B hw hT hN h hK) (hb := fun c => absurd c n0) (hi_j0 := fun c => absurd c n0) (hb_2 := fun c => absurd c n0) (hb_3 := fun c => absurd c n0) (h_2 := fun c => absurd c n0) (h_3 := fun c => absurd c n0)
theorem m_let34B {l2 v : Int32} (hw : WF12 μ y) (hT : MTP f y T n) (hN : NM f y) (h : BR f y n e) (hK : K none (sI μ f)) : G X (Rm (d + 2)) mX12_readLetters 34 [(0, .ref y), (1, .int (nI o)), (2, .int l2)] [.int v] (sI μ f) 0 0 K := by
  have n0 : ¬ iv (sI μ f) y 8 = 0 := h.n0
  exact b_X12_readLetters_34 (j0 := 0) (hw12_r0 := hw) (h := fun _ => m_let60B hw hT hN h hK) (hi_j0 := fun c => absurd c n0) (hb := fun c => absurd c n0) (h_2 := fun c => absurd c n0) (hc_fails := fun c => absurd c n0)
theorem m_letsL (hw : WF12 μ y) (ho : o + 48 ≤ 192) : ∀ (mm : Nat) (F : Nat → Nat) (g : Nat → Nat → Int32) (q : Nat), F o + mm = 4 → MU f g y → RQ g y T n q → PB g y T n p F m gr → IV F o 0 → F (o + 2) = 0 → (∀ g' e, pLets T n o mm q F = .error e → MU f g' y → BR g' y n e → g' (y + 3) (o + 2) = nI 0 → K none (sI μ g')) → (∀ g' r, pLets T n o mm q F = .ok r → MU f g' y → RQ g' y T n r.1 → PB g' y T n p r.2 m gr → K none (sI μ g')) → ∀ l2, (LV g y T n q → l2 = nwI (nmW T n q)) → G X (Rm (d + 2)) mX12_readLetters 5 [(0, .ref y), (1, .int (nI o)), (2, .int l2)] [] (sI μ g) 0 0 K := by
  intro mm
  induction mm with
  | zero =>
    intro F g q hk mu rq pb iv0 z2 hE hO l2 hl
    have := iv0.1
    omega
  | succ mm ih =>
    intro F g q hk mu rq pb iv0 z2 hE hO l2 hl
    rw [pLets_s] at hE hO
    have hRQ := rq
    obtain ⟨hq, ⟨t5, br⟩ | lv⟩ := rq
    · have n0 : ¬ iv (sI μ g) y 8 = 0 := br.n0
      rw [if_neg (fun z => by have := nmW_1 (T := T) (n := n) (q := q) (by omega); omega)] at hO
      exact b_X12_readLetters_5 (hw12_r0 := hw) (hK := fun _ => hO g _ rfl mu hRQ pb) (h := fun c => absurd c n0) (hK_2 := fun c => absurd c n0) (h_2 := fun c => absurd c n0)
    · have e8 : iv (sI μ g) y 8 = 0 := lv.1
      have el := hl lv
      have e11 := nwI_10 (w := nmW T n q) nmW_le (k := 11) (z := (11 : Int32)) rfl (by decide)
      have e12 := nwI_10 (w := nmW T n q) nmW_le (k := 12) (z := (12 : Int32)) rfl (by decide)
      rw [el]
      have GO : (nmW T n q = 11 ∨ nmW T n q = 12) → G X (Rm (d + 2)) mX12_readLetters 24 [(0, .ref y), (1, .int (nI o)), (2, .int (nwI (nmW T n q)))] [] (sI μ g) 0 0 K := fun c => by
        rw [if_pos c] at hE hO
        have bq := (tB_b (T := T) hq).2
        refine b_X12_readLetters_24 hw (m_read hw pb.1 lv hq (fun g1 m1 r1 => b_X12_readLetters_28 hw ?_))
        have P1 := pb.mg m1
        have mu1 := mu.tr m1.mu
        have z3 : ∀ g' : Nat → Nat → Int32, MG g1 g' y → g' (y + 3) (o + 2) = nI 0 := fun g' mg => by rw [mg.1 _ (by omega), P1.2.2.2.1 _ (by omega), z2]
        obtain ⟨hq1, ⟨t5, br⟩ | lv1⟩ := r1
        · have eo : pLet T n o (if nmW T n q = 11 then 1 else 0) (tB T n q) F = .error (1, tA T n (tB T n q)) := by
            unfold pLet
            rw [if_neg (fun z => by have := (o3_1 z).1; omega), rT_5 t5]
          exact m_letterB hw P1.1 br (m_let34B hw P1.1 P1.2.1 br (hE g1 _ (bnd_e eo) mu1 br (z3 g1 (MG.rf _ _))))
        · refine m_letterL (c := 97) hw P1.1 hq1 lv1 (Or.inl rfl) (fun z => ?_) (fun z g2 mg br => ?_)
          · have f8 : iv (sI μ g1) y 8 = 0 := lv1.1
            have i7 := iv0.2.2.2.2.2.2.1 _ z
            have i1 := iv0.1
            have ef : iv (sI μ g1) (y + 3) (o + 4 + o3 T n (tB T n q) 97) = nI (F (o + 4 + o3 T n (tB T n q) 97)) := P1.2.2.2.1 _ (by omega)
            have hj : (nI o + 4) + nI (o3 T n (tB T n q) 97) = nI (o + 4 + o3 T n (tB T n q) 97) := by rw [show (4 : Int32) = nI 4 from rfl, nI_add, nI_add]
            refine b_X12_readLetters_34 (j0 := o + 4 + o3 T n (tB T n q) 97) (hw12_r0 := hw) (h := fun c => absurd f8 c) (hi_j0 := fun _ => hj) (hb := fun _ => by omega) (h_2 := fun _ c0 => ?_) (hc_fails := fun _ c0 => ?_)
            · have w0 : F (o + 4 + o3 T n (tB T n q) 97) = 0 := Decidable.byContradiction fun w => by
                rw [ef] at c0
                exact absurd c0 (nI_nle (by omega) (by omega))
              have eb : ∀ b : Nat, (if nmW T n q = 11 then 1 else 0) = b → b < 2 := fun b hb => by rw [← hb]; split <;> decide
              have eo : pLet T n o (if nmW T n q = 11 then 1 else 0) (tB T n q) F = .ok (tB T n (tB T n q), lt1 F o (o3 T n (tB T n q) 97) (if nmW T n q = 11 then 1 else 0)) := by unfold pLet; rw [if_pos z, if_pos w0]
              rw [bnd_o eo] at hE hO
              have b2 := eb _ rfl
              have pl := pLet_ok bq iv0 z2 b2 eo
              have lt := (IV_lt1 (b := 0) iv0 z2 z w0 (by decide)).2.2
              have eFo : iv (sI μ g1) (y + 3) o = nI (F o) := P1.2.2.2.1 _ (by omega)
              -- the writes, then on
              have TL : ∀ v3 : Int32, v3 = nI ((if nmW T n q = 11 then 1 else 0) * 2 ^ F o) → G X (Rm (d + 2)) mX12_readLetters 112 [(0, .ref y), (1, .int (nI o))] [.int v3, .int (iv (wi (sI μ g1) (y + 3) (o + 4 + o3 T n (tB T n q) 97) (iv (sI μ g1) (y + 3) o + 1)) (y + 3) (o + 1)), .int (nI o + 1), .ref (y + 3)] (wi (sI μ g1) (y + 3) (o + 4 + o3 T n (tB T n q) 97) (iv (sI μ g1) (y + 3) o + 1)) 0 0 K := fun v3 hv3 => by
                refine b_X12_readLetters_112 (n0 := 192) (j0 := o + 1) (hk_q0 := w12_k3 hw) (hi_j0 := nI_1 o) (hb := by omega) (hw12_r0 := hw) (hb_2 := by omega) (h := ?_)
                have h1 : u2 g1 (y + 3) (o + 4 + o3 T n (tB T n q) 97) (nI (F o + 1)) (y + 3) (o + 1) = nI (F (o + 1)) := by rw [u2_k (by omega)]; exact P1.2.2.2.1 _ (by omega)
                have h0 : ∀ v, u2 (u2 g1 (y + 3) (o + 4 + o3 T n (tB T n q) 97) (nI (F o + 1))) (y + 3) (o + 1) v (y + 3) o = nI (F o) := fun v => by rw [u2_k (by omega), u2_k (by omega)]; exact P1.2.2.2.1 _ (by omega)
                rw [eFo, nI_1, wi_sI, iv_sI, h1, hv3, nI_or, wi_sI, iv_sI, h0, nI_1, wi_sI]
                have fr : ∀ zz, zz ≠ y + 3 → ∀ j, u2 (u2 (u2 g1 (y + 3) (o + 4 + o3 T n (tB T n q) 97) (nI (F o + 1))) (y + 3) (o + 1) (nI (F (o + 1) ||| (if nmW T n q = 11 then 1 else 0) * 2 ^ F o))) (y + 3) o (nI (F o + 1)) zz j = g1 zz j := fun zz hz j => by rw [u2_x hz, u2_x hz, u2_x hz]
                have P2 : PB (u2 (u2 (u2 g1 (y + 3) (o + 4 + o3 T n (tB T n q) 97) (nI (F o + 1))) (y + 3) (o + 1) (nI (F (o + 1) ||| (if nmW T n q = 11 then 1 else 0) * 2 ^ F o))) (y + 3) o (nI (F o + 1))) y T n p (lt1 F o (o3 T n (tB T n q) 97) (if nmW T n q = 11 then 1 else 0)) m gr := by
                  refine P1.f3 fr (fun k hk => ?_)
                  by_cases k0 : k = o
                  · rw [k0, u2_s, lt1_o]
                  · rw [u2_k k0]
                    by_cases k1 : k = o + 1
                    · rw [k1, u2_s, lt1_1]
                    · rw [u2_k k1]
                      by_cases k2 : k = o + 4 + o3 T n (tB T n q) 97
                      · rw [k2, u2_s, lt1_l]
                      · rw [u2_k k2, lt1_x k2 k1 k0]; exact P1.2.2.2.1 k hk
                have lv2 := RQ.fy (q := tB T n q) (g := u2 (u2 (u2 g1 (y + 3) (o + 4 + o3 T n (tB T n q) 97) (nI (F o + 1))) (y + 3) (o + 1) (nI (F (o + 1) ||| (if nmW T n q = 11 then 1 else 0) * 2 ^ F o))) (y + 3) o (nI (F o + 1))) ⟨hq1, Or.inr lv1⟩ (fun j _ _ => fr y (by omega) j)
                have mu2 := mu1.tr (mu3 fr)
                generalize u2 (u2 (u2 g1 (y + 3) (o + 4 + o3 T n (tB T n q) 97) (nI (F o + 1))) (y + 3) (o + 1) (nI (F (o + 1) ||| (if nmW T n q = 11 then 1 else 0) * 2 ^ F o))) (y + 3) o (nI (F o + 1)) = g2 at P2 lv2 mu2 ⊢
                have lv3 : LV g2 y T n (tB T n q) := lv2.2.resolve_left (fun w => lv1.2.2.2.2.2 w.1)
                refine b_X12_readLetters_124 hw (m_read hw P2.1 lv3 hq1 (fun g3 m3 r3 => b_X12_readLetters_128 hw ?_))
                have P3 := P2.mg m3
                have N5 := ih (lt1 F o (o3 T n (tB T n q) 97) (if nmW T n q = 11 then 1 else 0)) g3 (tB T n (tB T n q)) (by rw [lt1_o]; omega) (mu2.tr m3.mu) r3 P3 pl.1 pl.2.1 hE hO
                have r3' := r3
                obtain ⟨hq3, ⟨t5, br3⟩ | lv4⟩ := r3
                · exact m_nameB hw P3.1 P3.2.1 br3 (fun w _ => b_X12_readLetters_132 (N5 _ (fun lv => absurd t5 lv.2.2.2.2.2)))
                · exact m_nameL hw P3.1 P3.2.1 hq3 lv4 (b_X12_readLetters_132 (N5 _ (fun _ => rfl)))
              refine b_X12_readLetters_60 (j0 := o + 4 + o3 T n (tB T n q) 97) (hw12_r0 := hw) (h := fun c => absurd f8 c) (hb := fun _ => by omega) (hi_j0 := fun _ => hj) (hb_2 := fun _ => by omega) (hb_3 := fun _ => by omega) (h_2 := fun _ c1 => TL 0 ?_) (h_3 := fun _ c1 => TL _ ?_)
              · rw [if_neg (fun w => c1 (e11.mpr w)), Nat.zero_mul]; rfl
              · rw [if_pos (e11.mp c1), Nat.one_mul, eFo, sh1 _ (by omega)]
            · have w0 : ¬ F (o + 4 + o3 T n (tB T n q) 97) = 0 := fun w => c0 (by rw [ef, w]; exact le_r _)
              have eo : pLet T n o (if nmW T n q = 11 then 1 else 0) (tB T n q) F = .error (4, tA T n (tB T n q)) := by unfold pLet; rw [if_pos z, if_neg w0]
              refine m_failL (c := 4) hw hq1 lv1 (by decide) (fun g2 mg br => ?_)
              have P2 := P1.mg mg
              exact m_let60B hw P2.1 P2.2.1 br (hE g2 _ (bnd_e eo) (mu1.tr mg.mu) br (z3 g2 mg))
          · have eo : pLet T n o (if nmW T n q = 11 then 1 else 0) (tB T n q) F = .error (2, tA T n (tB T n q)) := by unfold pLet; rw [if_neg z, rT_n lv1.2.2.2.2.2]
            have P2 := P1.mg mg
            exact m_let34B hw P2.1 P2.2.1 br (hE g2 _ (bnd_e eo) (mu1.tr mg.mu) br (z3 g2 mg))
      refine b_X12_readLetters_5 (hw12_r0 := hw) (hK := fun c => absurd e8 c) (h := fun _ c => GO (Or.inl (e11.mp c))) (hK_2 := fun _ c1 c2 => ?_) (h_2 := fun _ _ c => GO (Or.inr (e12.mp c)))
      rw [if_neg (fun w => w.elim (fun w => c1 (e11.mpr w)) (fun w => c2 (e12.mpr w)))] at hO
      exact hO g _ rfl mu hRQ pb
theorem m_readLetters (hw : WF12 μ y) (ho : o + 48 ≤ 192) (h : RQ f y T n q) (hP : PB f y T n p F m gr) (hI : IV F o 0) (h0 : F o = 0) (h2 : F (o + 2) = 0) (hE : ∀ g' e, pLets T n o 4 q F = .error e → MU f g' y → BR g' y n e → g' (y + 3) (o + 2) = nI 0 → K none (sI μ g')) (hO : ∀ g' r, pLets T n o 4 q F = .ok r → MU f g' y → RQ g' y T n r.1 → PB g' y T n p r.2 m gr → K none (sI μ g')) : Ct X (Rm (d + 2)) mX12_readLetters [.ref y, .int (nI o)] (sI μ f) K := by
  have L := m_letsL (X := X) (d := d) (K := K) (f := f) (T := T) (p := p) (m := m) (gr := gr) hw ho 4 F f q (by omega) (MU.rf _ _) h hP hI h2 hE hO
  refine Ct_of rfl (Nat.le_of_ble_eq_true rfl) (b_X12_readLetters_0 hw ?_)
  obtain ⟨hq, ⟨t5, br⟩ | lv⟩ := h
  · exact m_nameB hw hP.1 hP.2.1 br (fun w _ => b_X12_readLetters_4 (L _ (fun lv => absurd t5 lv.2.2.2.2.2)))
  · exact m_nameL hw hP.1 hP.2.1 hq lv (b_X12_readLetters_4 (L _ (fun _ => rfl)))
end P66
