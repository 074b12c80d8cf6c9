theorem pTold_cg {T F F' : Nat → Nat} {n o q : Nat} (h : ∀ l, l < 3 → F' (o + 4 + l) = F (o + 4 + l)) : pTold T n F' o q = pTold T n F o q := by
  unfold pTold
  by_cases z : o3 T n q 97 < 3
  · rw [if_pos z, if_pos z, h _ z]
  · rw [if_neg z, if_neg z]
theorem it1_up {F : Nat → Nat} {o k a b h : Nat} : ∀ j, it1 F o k a b h j = upd1 (upd1 (upd1 (upd1 (upd1 F (o + 8 + 3 * F (o + 2)) k) (o + 8 + 3 * F (o + 2) + 1) a) (o + 8 + 3 * F (o + 2) + 2) b) (o + 2) (F (o + 2) + 1)) (o + 3) (max (F (o + 3)) h) j := fun j => by
  unfold it1
  by_cases c3 : j = o + 3
  · rw [c3, if_neg (by omega), if_neg (by omega), if_neg (by omega), if_neg (by omega), if_pos rfl, upd1_s]
  · rw [upd1_n c3]
    by_cases c2 : j = o + 2
    · rw [c2, if_neg (by omega), if_neg (by omega), if_neg (by omega), if_pos rfl, upd1_s]
    · rw [upd1_n c2]
      by_cases d2 : j = o + 8 + 3 * F (o + 2) + 2
      · rw [d2, if_neg (by omega), if_neg (by omega), if_pos rfl, upd1_s]
      · rw [upd1_n d2]
        by_cases d1 : j = o + 8 + 3 * F (o + 2) + 1
        · rw [d1, if_neg (by omega), if_pos rfl, upd1_s]
        · rw [upd1_n d1]
          by_cases d0 : j = o + 8 + 3 * F (o + 2)
          · rw [d0, if_pos rfl, upd1_s]
          · rw [upd1_n d0, if_neg d0, if_neg d1, if_neg d2, if_neg c2, if_neg c3]
theorem e_in24 {μ : mM} {k : Nat} (hk : k ≤ 13) : e_X12_in μ (nI k).toInt64 2 4 = 0 ↔ ¬ (2 ≤ k ∧ k ≤ 4) := by
  rw [e_in0, i64, nI_toInt (by omega)]
  have e2 : (2 : Int64).toInt = 2 := by decide
  have e4 : (4 : Int64).toInt = 4 := by decide
  rw [e2, e4]
  omega
theorem e_in07 {μ : mM} {w : Nat} (hw : w ≤ 13) : e_X12_in μ (nwI w).toInt64 0 7 = 0 ↔ ¬ w ≤ 7 := by
  unfold nwI
  by_cases c : w < 13
  · rw [if_pos c]; exact e_inN (n := 7) (by omega) (by decide) (by decide)
  · rw [if_neg c]
    exact ⟨fun _ => by omega, fun _ => by rfl⟩
section P67
variable {X : cX} {d : Nat} {μ : mM} {K : Option Value → mM → Prop} {f g : Nat → Nat → Int32} {y q n o : Nat} {T p F : Nat → Nat} {m gr : Nat} {e : Nat × Nat}
theorem fu3 {j : Nat} {v : Int32} : ∀ z, z ≠ y + 3 → ∀ i, u2 f (y + 3) j v z i = f z i := fun _ hz _ => u2_x hz
/-- an item's end, whatever there is -/
theorem m_it178B {k j0 : Nat} {l2 v1 v2 : Int32} (hw : WF12 μ y) (ho : o + 48 ≤ 192) (hv : v1 = nI j0) (hj : j0 < 192) (hK : ∀ v g, (∀ z, z ≠ y + 3 → ∀ j, g z j = f z j) → K (some (.int v)) (sI μ g)) : G X (Rm (d + 3)) mX12_readItem 178 [(0, .ref y), (1, .int (nI o)), (2, .int l2), (3, .int (nI k))] [.int v2, .int v1, .ref (y + 3)] (sI μ f) 0 0 K := by
  have E : ∀ v g, (∀ z, z ≠ y + 3 → ∀ j, g z j = f z j) → G X (Rm (d + 3)) mX12_readItem 214 [(0, .ref y), (1, .int (nI o))] [.int v] (sI μ g) 0 0 K := fun v g hg => by
    refine b_X12_readItem_214 (hw12_r0 := hw) (hb := by omega) (hb_2 := fun _ => by omega) (hK := fun _ => ?_) (hb_3 := fun _ => by omega) (hK_2 := fun _ => ?_)
    · rw [wi_sI]; exact hK _ _ (fun z hz j => by rw [u2_x hz]; exact hg z hz j)
    · rw [wi_sI]; exact hK _ _ (fun z hz j => by rw [u2_x hz]; exact hg z hz j)
  refine b_X12_readItem_178 (n0 := 192) (j0 := j0) (hk_q0 := w12_k3 hw) (hi_j0 := hv) (hb := hj) (hw12_r0 := hw) (hb_2 := by omega) (h := fun _ _ => ?_) (h_2 := fun _ _ => ?_) (h_3 := fun _ => ?_) <;> (rw [wi_sI, wi_sI]; exact E _ _ (fun z hz j => by rw [u2_x hz, u2_x hz]))
theorem m_it178L {k h b : Nat} {F2 : Nat → Nat} {v1 : Int32} (hw : WF12 μ y) (ho : o + 48 ≤ 192) (hv : v1 = nI (o + 8 + 3 * F (o + 2) + 2)) (h12 : F (o + 2) < 12) (hk : k ≤ 7) (ht : tkn k ≤ h) (hh : h ≤ 12) (h3 : F2 (o + 3) ≤ 12) (h22 : F2 (o + 2) = F (o + 2)) (hF : ∀ j, j < 192 → f (y + 3) j = nI (F2 j)) (hK : ∀ g, (∀ z, z ≠ y + 3 → ∀ j, g z j = f z j) → (∀ j, j < 192 → g (y + 3) j = nI (upd1 (upd1 (upd1 F2 (o + 8 + 3 * F (o + 2) + 2) b) (o + 2) (F (o + 2) + 1)) (o + 3) (max (F2 (o + 3)) (h + 1 - tkn k)) j)) → K (some (.int (nI (h + 1 - tkn k)))) (sI μ g)) : G X (Rm (d + 3)) mX12_readItem 178 [(0, .ref y), (1, .int (nI o)), (2, .int (nI h)), (3, .int (nI k))] [.int (nI b), .int v1, .ref (y + 3)] (sI μ f) 0 0 K := by
  have e2 : u2 f (y + 3) (o + 8 + 3 * F (o + 2) + 2) (nI b) (y + 3) (o + 2) = nI (F (o + 2)) := by rw [u2_k (by omega), hF _ (by omega), h22]
  have tl := tkn_le k
  have E : ∀ v : Int32, v = nI (h + 1 - tkn k) → G X (Rm (d + 3)) mX12_readItem 214 [(0, .ref y), (1, .int (nI o))] [.int v] (wi (wi (sI μ f) (y + 3) (o + 8 + 3 * F (o + 2) + 2) (nI b)) (y + 3) (o + 2) (iv (wi (sI μ f) (y + 3) (o + 8 + 3 * F (o + 2) + 2) (nI b)) (y + 3) (o + 2) + 1)) 0 0 K := fun v hv => by
    rw [wi_sI, iv_sI, e2, nI_1, wi_sI, hv]
    have hF2 := up3 (j := o + 2) (v := F (o + 2) + 1) (up3 (j := o + 8 + 3 * F (o + 2) + 2) (v := b) hF)
    have fr : ∀ z, z ≠ y + 3 → ∀ j, u2 (u2 f (y + 3) (o + 8 + 3 * F (o + 2) + 2) (nI b)) (y + 3) (o + 2) (nI (F (o + 2) + 1)) z j = f z j := fun z hz j => by rw [u2_x hz, u2_x hz]
    generalize u2 (u2 f (y + 3) (o + 8 + 3 * F (o + 2) + 2) (nI b)) (y + 3) (o + 2) (nI (F (o + 2) + 1)) = g2 at hF2 fr ⊢
    have e3 : iv (sI μ g2) (y + 3) (o + 3) = nI (F2 (o + 3)) := by rw [iv_sI, hF2 _ (by omega), upd1_n (by omega), upd1_n (by omega)]
    have le : (nI (h + 1 - tkn k) ≤ iv (sI μ g2) (y + 3) (o + 3)) ↔ h + 1 - tkn k ≤ F2 (o + 3) := by rw [e3]; exact nI_leI (by omega) (by omega)
    refine b_X12_readItem_214 (hw12_r0 := hw) (hb := by omega) (hb_2 := fun _ => by omega) (hK := fun c => ?_) (hb_3 := fun _ => by omega) (hK_2 := fun c => ?_)
    · rw [le] at c
      rw [e3, wi_sI]
      refine hK _ (fun z hz j => by rw [u2_x hz]; exact fr z hz j) ?_
      rw [Nat.max_eq_left c]
      exact up3 hF2
    · rw [le] at c
      rw [wi_sI]
      refine hK _ (fun z hz j => by rw [u2_x hz]; exact fr z hz j) ?_
      rw [Nat.max_eq_right (by omega)]
      exact up3 hF2
  have k5 : ((5 : Int32) ≤ nI k) ↔ 5 ≤ k := nI_leI (a := 5) (by decide) (by omega)
  have q5 : (nI k = (5 : Int32)) ↔ k = 5 := nI_eq (b := 5) (by omega) (by decide)
  refine b_X12_readItem_178 (n0 := 192) (j0 := o + 8 + 3 * F (o + 2) + 2) (hk_q0 := w12_k3 hw) (hi_j0 := hv) (hb := by omega) (hw12_r0 := hw) (hb_2 := by omega) (h := fun c1 c2 => E _ ?_) (h_2 := fun _ c2 => E _ ?_) (h_3 := fun c1 => E _ ?_)
  · rw [k5] at c1; rw [q5] at c2
    have et : tkn k = 2 := by unfold tkn; rw [if_neg c2, if_pos (by omega)]
    rw [et] at ht ⊢
    rw [show (1 : Int32) = nI 1 from rfl, pk_sub (by omega), show h - 1 = h + 1 - 2 by omega]
  · rw [q5] at c2
    have et : tkn k = 1 := by unfold tkn; rw [if_pos c2]
    rw [et]; rfl
  · rw [k5] at c1
    have et : tkn k = 0 := by unfold tkn; rw [if_neg (by omega), if_neg (by omega)]
    rw [et, nI_1]; rfl
/-- the second of an item's two, from a fault on -/
theorem m_it148B {k j0 : Nat} {l2 v1 v2 : Int32} (hw : WF12 μ y) (hT : MTP f y T n) (h : BR f y n e) (ho : o + 48 ≤ 192) (hk : k ≤ 7) (hv : v1 = nI (j0 + 1)) (hj : j0 + 2 < 192) (hK : ∀ v g, (∀ z, z ≠ y + 3 → ∀ j, g z j = f z j) → K (some (.int v)) (sI μ g)) : G X (Rm (d + 3)) mX12_readItem 148 [(0, .ref y), (1, .int (nI o)), (2, .int l2), (3, .int (nI k)), (4, .int (nI j0))] [.int v2, .int v1, .ref (y + 3)] (sI μ f) 0 0 K := by
  have e2 : nI j0 + 2 = nI (j0 + 2) := nI_add j0 2
  refine b_X12_readItem_148 (n0 := 192) (j0 := j0 + 1) (hk_q0 := w12_k3 hw) (hi_j0 := hv) (hb := by omega) (hw12_r0 := hw) (h := fun _ => ?_) (hc_toldRead := fun _ => ?_)
  · rw [wi_sI]
    exact m_it178B hw ho e2 hj (fun v g hg => hK v g (fun z hz j => by rw [hg z hz, u2_x hz]))
  · rw [wi_sI]
    have b2 : BR (u2 f (y + 3) (j0 + 1) v2) y n e := h.fy (fun j _ _ => u2_x (by omega))
    have t2 : MTP (u2 f (y + 3) (j0 + 1) v2) y T n := hT.fr (u2_x (by omega)) (fun j => u2_x (by omega))
    exact m_toldB hw t2 b2 (by omega) (fun v => b_X12_readItem_174 (m_it178B hw ho e2 hj (fun v g hg => hK v g (fun z hz j => by rw [hg z hz, u2_x hz]))))
theorem m_itemB {c : Nat} {l2 : Int32} (hw : WF12 μ y) (hT : MTP f y T n) (hN : NM f y) (h : BR f y n e) (ho : o + 48 ≤ 192) (hc : f (y + 3) (o + 2) = nI c) (hc2 : c ≤ 12) (hK : ∀ v g, (∀ z, z ≠ y + 3 → ∀ j, g z j = f z j) → K (some (.int v)) (sI μ g)) : Ct X (Rm (d + 3)) mX12_readItem [.ref y, .int (nI o), .int l2] (sI μ f) K := by
  have K0 : ∀ v, K (some (.int v)) (sI μ f) := fun v => hK v f (fun _ _ _ => rfl)
  refine Ct_of rfl (Nat.le_of_ble_eq_true rfl) (b_X12_readItem_0 hw (m_nameB hw hT hN h (fun w hw13 => ?_)))
  have e07 := e_in07 (μ := sI μ f) hw13
  have c12 : (iv (sI μ f) (y + 3) (o + 2) = (12 : Int32)) ↔ c = 12 := by rw [iv_sI, hc]; exact nI_eq (b := 12) (by omega) (by decide)
  have F64 : ∀ l2 : Int32, G X (Rm (d + 3)) mX12_readItem 64 [(0, .ref y), (2, .int l2)] [] (sI μ f) 0 0 K := fun l2 => b_X12_readItem_64 hw (m_failB hw h (b_X12_readItem_69 (K0 _)))
  have F71 : w ≤ 7 → c ≠ 12 → G X (Rm (d + 3)) mX12_readItem 71 [(0, .ref y), (1, .int (nI o)), (2, .int l2), (3, .int (nI w))] [] (sI μ f) 0 0 K := fun w7 cn => by
    refine b_X12_readItem_71 hw (by omega) (m_readB hw h ?_)
    have ea : (nI o + 8) + (3 : Int32) * iv (sI μ f) (y + 3) (o + 2) = nI (o + 8 + 3 * c) := by rw [iv_sI, hc, show (8 : Int32) = nI 8 from rfl, show (3 : Int32) = nI 3 from rfl, pk_mul, nI_add, nI_add]
    rw [ea]
    have e1 : nI (o + 8 + 3 * c) + 1 = nI (o + 8 + 3 * c + 1) := nI_1 _
    have b2 : BR (u2 f (y + 3) (o + 8 + 3 * c) (nI w)) y n e := h.fy (fun j _ _ => u2_x (by omega))
    have t2 : MTP (u2 f (y + 3) (o + 8 + 3 * c) (nI w)) y T n := hT.fr (u2_x (by omega)) (fun j => u2_x (by omega))
    have A : ∀ v2 : Int32, G X (Rm (d + 3)) mX12_readItem 148 [(0, .ref y), (1, .int (nI o)), (2, .int l2), (3, .int (nI w)), (4, .int (nI (o + 8 + 3 * c)))] [.int v2, .int (nI (o + 8 + 3 * c) + 1), .ref (y + 3)] (sI μ (u2 f (y + 3) (o + 8 + 3 * c) (nI w))) 0 0 K := fun v2 =>
      m_it148B hw t2 b2 ho w7 e1 (by omega) (fun v g hg => hK v g (fun z hz j => by rw [hg z hz, u2_x hz]))
    refine b_X12_readItem_92 (j0 := o + 8 + 3 * c) (hw12_r0 := hw) (hi_j0 := rfl) (hb := by omega) (h := fun _ _ => ?_) (hc_toldRead := fun _ _ => ?_) (hc_variableRead := fun _ => ?_)
    · rw [wi_sI]; exact A _
    · rw [wi_sI]; exact m_toldB hw t2 b2 (by omega) (fun v => b_X12_readItem_144 (A v))
    · rw [wi_sI]; exact m_varB hw t2 b2 (b_X12_readItem_122 (A _))
  have F54 : w ≤ 7 → c ≠ 12 → G X (Rm (d + 3)) mX12_readItem 54 [(0, .ref y), (1, .int (nI o)), (2, .int l2), (3, .int (nI w))] [] (sI μ f) 0 0 K := fun w7 cn =>
    b_X12_readItem_54 (h := fun _ => F71 w7 cn) (h_2 := fun _ _ => F71 w7 cn) (h_3 := fun _ _ => F64 _)
  have nw : w ≤ 7 → nwI w = nI w := fun w7 => if_pos (by omega)
  refine b_X12_readItem_4 (hw12_r0 := hw) (hb := fun _ => by omega) (h := fun c1 c2 _ => ?_) (h_2 := fun _ _ _ _ => F64 _) (h_3 := fun c1 c2 _ _ => ?_) (hc_fails := fun _ _ => m_failB hw h (b_X12_readItem_42 (K0 _))) (hc_fails_2 := fun _ => m_failB hw h (b_X12_readItem_22 (K0 _)))
  · have w7 : w ≤ 7 := Decidable.byContradiction fun z => c1 (e07.mpr z)
    rw [nw w7]
    exact F54 w7 (fun z => c2 (c12.mpr z))
  · have w7 : w ≤ 7 := Decidable.byContradiction fun z => c1 (e07.mpr z)
    rw [nw w7]
    exact F54 w7 (fun z => c2 (c12.mpr z))
theorem m_itemL {h : Nat} (hw : WF12 μ y) (hr : RQ f y T n q) (hP : PB f y T n p F m gr) (hI : IV F o h) (ho : o + 48 ≤ 192) (hE : ∀ g e v, pItem T n o q F h = .error e → MU f g y → BR g y n e → K (some (.int v)) (sI μ g)) (hO : ∀ g r, pItem T n o q F h = .ok r → MU f g y → RQ g y T n r.1 → PB g y T n p r.2.1 m gr → K (some (.int (nI r.2.2))) (sI μ g)) : Ct X (Rm (d + 3)) mX12_readItem [.ref y, .int (nI o), .int (nI h)] (sI μ f) K := by
  have i1 := hI.1
  have i3 := hI.2.2.1
  have i4 := hI.2.2.2.1
  have hl : h ≤ F (o + 2) := by have := hg_le F o (F (o + 2)); rw [hI.2.2.2.2.1] at this; exact this
  have eF2 : f (y + 3) (o + 2) = nI (F (o + 2)) := hP.2.2.2.1 _ (by omega)
  obtain ⟨hq, ⟨t5, br⟩ | lv⟩ := hr
  · have eo : pItem T n o q F h = .error (1, tA T n q) := by
      unfold pItem
      rw [if_pos (Decidable.byContradiction fun z => by have := nmW_1 (T := T) (n := n) (q := q) (by omega); omega), rT_5 t5]
    exact m_itemB hw hP.1 hP.2.1 br ho eF2 i3 (fun v g hg => hE g _ v eo (mu3 hg) (br.fy (fun j _ _ => hg y (by omega) j)))
  · refine Ct_of rfl (Nat.le_of_ble_eq_true rfl) (b_X12_readItem_0 hw (m_nameL hw hP.1 hP.2.1 hq lv ?_))
    have e07 := e_in07 (μ := sI μ f) (w := nmW T n q) nmW_le
    have bq := (tB_b (T := T) hq).2
    unfold pItem at hE hO
    generalize hkk : nmW T n q = k at e07 hE hO ⊢
    have c12 : (iv (sI μ f) (y + 3) (o + 2) = (12 : Int32)) ↔ F (o + 2) = 12 := by rw [iv_sI, eF2]; exact nI_eq (b := 12) (by omega) (by decide)
    by_cases k7 : k ≤ 7
    · rw [if_neg (by omega)] at hE hO
      have n07 : ¬ e_X12_in (sI μ f) (nwI k).toInt64 0 7 = 0 := fun z => (e07.mp z) k7
      have nw : nwI k = nI k := if_pos (by omega)
      rw [nw] at n07 ⊢
      have tl := tkn_le k
      by_cases f12 : F (o + 2) = 12
      · rw [if_pos f12] at hE
        refine b_X12_readItem_4 (hw12_r0 := hw) (hb := fun _ => by omega) (h := fun _ c => absurd (c12.mpr f12) c) (h_2 := fun _ c => absurd (c12.mpr f12) c) (h_3 := fun _ c => absurd (c12.mpr f12) c) (hc_fails := fun _ _ => ?_) (hc_fails_2 := fun c => absurd c n07)
        exact m_failL (c := 5) hw hq lv (by decide) (fun g mg br => b_X12_readItem_42 (hE g _ _ rfl mg.mu br))
      rw [if_neg f12] at hE hO
      have n12 : ¬ iv (sI μ f) (y + 3) (o + 2) = (12 : Int32) := fun z => f12 (c12.mp z)
      have F64 : h < tkn k → G X (Rm (d + 3)) mX12_readItem 64 [(0, .ref y), (2, .int (nI h))] [] (sI μ f) 0 0 K := fun lt => by
        rw [if_pos lt] at hE
        exact b_X12_readItem_64 hw (m_failL (c := 4) hw hq lv (by decide) (fun g mg br => b_X12_readItem_69 (hE g _ _ rfl mg.mu br)))
      have F71 : tkn k ≤ h → G X (Rm (d + 3)) mX12_readItem 71 [(0, .ref y), (1, .int (nI o)), (2, .int (nI h)), (3, .int (nI k))] [] (sI μ f) 0 0 K := fun ge => by
        rw [if_neg (by omega)] at hE hO
        refine b_X12_readItem_71 hw (by omega) (m_read hw hP.1 lv hq (fun g1 m1 r1 => ?_))
        have P1 := hP.mg m1
        have ea : (nI o + 8) + (3 : Int32) * iv (sI μ f) (y + 3) (o + 2) = nI (o + 8 + 3 * F (o + 2)) := by rw [iv_sI, eF2, show (8 : Int32) = nI 8 from rfl, show (3 : Int32) = nI 3 from rfl, pk_mul, nI_add, nI_add]
        rw [ea]
        have e1 : nI (o + 8 + 3 * F (o + 2)) + 1 = nI (o + 8 + 3 * F (o + 2) + 1) := nI_1 _
        have e2 : nI (o + 8 + 3 * F (o + 2)) + 2 = nI (o + 8 + 3 * F (o + 2) + 2) := nI_add _ 2
        -- the kind is written
        have P2 : PB (u2 g1 (y + 3) (o + 8 + 3 * F (o + 2)) (nI k)) y T n p (upd1 F (o + 8 + 3 * F (o + 2)) k) m gr := P1.f3 fu3 (up3 P1.2.2.2.1)
        have r2 : RQ (u2 g1 (y + 3) (o + 8 + 3 * F (o + 2)) (nI k)) y T n (tB T n q) := r1.fy (fun j _ _ => u2_x (by omega))
        have mu2 : MU f (u2 g1 (y + 3) (o + 8 + 3 * F (o + 2)) (nI k)) y := m1.mu.tr (mu3 fu3)
        generalize hg2 : u2 g1 (y + 3) (o + 8 + 3 * F (o + 2)) (nI k) = g2 at P2 r2 mu2
        have w2 : wi (sI μ g1) (y + 3) (o + 8 + 3 * F (o + 2)) (nI k) = sI μ g2 := by rw [wi_sI, hg2]
        have l4 : ∀ l, l < 3 → upd1 F (o + 8 + 3 * F (o + 2)) k (o + 4 + l) = F (o + 4 + l) := fun l hl => upd1_n (by omega)
        have i7 : ∀ l, l < 3 → F (o + 4 + l) ≤ 3 := fun l hl => by have := hI.2.2.2.2.2.2.1 l hl; omega
        -- from the first on
        have A : ∀ g3 (a : Nat × Nat), pFst T n F o k (tB T n q) = .ok a → MU f g3 y → RQ g3 y T n a.2 → PB g3 y T n p (upd1 F (o + 8 + 3 * F (o + 2)) k) m gr → G X (Rm (d + 3)) mX12_readItem 148 [(0, .ref y), (1, .int (nI o)), (2, .int (nI h)), (3, .int (nI k)), (4, .int (nI (o + 8 + 3 * F (o + 2))))] [.int (nI a.1), .int (nI (o + 8 + 3 * F (o + 2)) + 1), .ref (y + 3)] (sI μ g3) 0 0 K := fun g3 a ea mu3' r3 P3 => by
          rw [bnd_o ea] at hE hO
          have P4 : PB (u2 g3 (y + 3) (o + 8 + 3 * F (o + 2) + 1) (nI a.1)) y T n p (upd1 (upd1 F (o + 8 + 3 * F (o + 2)) k) (o + 8 + 3 * F (o + 2) + 1) a.1) m gr := P3.f3 fu3 (up3 P3.2.2.2.1)
          have r4 : RQ (u2 g3 (y + 3) (o + 8 + 3 * F (o + 2) + 1) (nI a.1)) y T n a.2 := r3.fy (fun j _ _ => u2_x (by omega))
          have mu4 : MU f (u2 g3 (y + 3) (o + 8 + 3 * F (o + 2) + 1) (nI a.1)) y := mu3'.tr (mu3 fu3)
          generalize hg4 : u2 g3 (y + 3) (o + 8 + 3 * F (o + 2) + 1) (nI a.1) = g4 at P4 r4 mu4
          have w4 : wi (sI μ g3) (y + 3) (o + 8 + 3 * F (o + 2) + 1) (nI a.1) = sI μ g4 := by rw [wi_sI, hg4]
          have l4' : ∀ l, l < 3 → upd1 (upd1 F (o + 8 + 3 * F (o + 2)) k) (o + 8 + 3 * F (o + 2) + 1) a.1 (o + 4 + l) = F (o + 4 + l) := fun l hl => by rw [upd1_n (by omega)]; exact l4 l hl
          have B : ∀ g5 (b : Nat × Nat), pSnd T n F o k a.2 = .ok b → MU f g5 y → RQ g5 y T n b.2 → PB g5 y T n p (upd1 (upd1 F (o + 8 + 3 * F (o + 2)) k) (o + 8 + 3 * F (o + 2) + 1) a.1) m gr → G X (Rm (d + 3)) mX12_readItem 178 [(0, .ref y), (1, .int (nI o)), (2, .int (nI h)), (3, .int (nI k))] [.int (nI b.1), .int (nI (o + 8 + 3 * F (o + 2)) + 2), .ref (y + 3)] (sI μ g5) 0 0 K := fun g5 b eb mu5 r5 P5 => by
            rw [bnd_o eb] at hO
            refine m_it178L (F := F) hw ho e2 (by omega) k7 ge (by omega) (by rw [upd1_n (by omega), upd1_n (by omega)]; exact i4) (by rw [upd1_n (by omega), upd1_n (by omega)]) P5.2.2.2.1 (fun g6 fr hf => ?_)
            refine hO g6 _ rfl (mu5.tr (mu3 fr)) (r5.fy (fun j _ _ => fr y (by omega) j)) (P5.f3 fr (fun j hj => ?_))
            show _ = nI (it1 F o k a.1 b.1 (h + 1 - tkn k) j)
            have e3 : upd1 (upd1 F (o + 8 + 3 * F (o + 2)) k) (o + 8 + 3 * F (o + 2) + 1) a.1 (o + 3) = F (o + 3) := by rw [upd1_n (by omega), upd1_n (by omega)]
            rw [it1_up, hf j hj, e3]
          have k3 := e_inN (μ := sI μ g4) (i := k) (n := 3) (c := 3) (by omega) (by decide) (by decide)
          refine b_X12_readItem_148 (n0 := 192) (j0 := o + 8 + 3 * F (o + 2) + 1) (hk_q0 := w12_k3 hw) (hi_j0 := e1) (hb := by omega) (hw12_r0 := hw) (h := fun c => ?_) (hc_toldRead := fun c => ?_)
          · rw [w4] at c ⊢
            have es : pSnd T n F o k a.2 = .ok (0, a.2) := if_neg (by have := k3.mp c; omega)
            exact B g4 (0, a.2) es mu4 r4 P4
          · rw [w4] at c ⊢
            have es : pSnd T n F o k a.2 = pTold T n F o a.2 := if_pos (Decidable.byContradiction fun z => c (k3.mpr (by omega)))
            refine m_toldL (F := upd1 (upd1 F (o + 8 + 3 * F (o + 2)) k) (o + 8 + 3 * F (o + 2) + 1) a.1) hw P4.1 r4 (by omega) P4.2.2.2.1 (fun l hl => by rw [l4' l hl]; exact i7 l hl) (fun g5 e' v d1 d2 d3 => b_X12_readItem_174 ?_) (fun g5 b d1 d2 d3 => b_X12_readItem_174 ?_)
            · rw [pTold_cg l4'] at d1
              exact m_it178B hw ho e2 (by omega) (fun v g6 fr => hE g6 e' v (bnd_e (es.trans d1)) ((mu4.tr d2.mu).tr (mu3 fr)) (d3.fy (fun j _ _ => fr y (by omega) j)))
            · rw [pTold_cg l4'] at d1
              exact B g5 b (es.trans d1) (mu4.tr d2.mu) d3 (P4.mg d2)
        have AE : ∀ g3 e' v2, pFst T n F o k (tB T n q) = .error e' → MU f g3 y → BR g3 y n e' → MTP g3 y T n → G X (Rm (d + 3)) mX12_readItem 148 [(0, .ref y), (1, .int (nI o)), (2, .int (nI h)), (3, .int (nI k)), (4, .int (nI (o + 8 + 3 * F (o + 2))))] [.int v2, .int (nI (o + 8 + 3 * F (o + 2)) + 1), .ref (y + 3)] (sI μ g3) 0 0 K := fun g3 e' v2 ee mu3' b3 t3 =>
          m_it148B hw t3 b3 ho k7 e1 (by omega) (fun v g6 fr => hE g6 e' v (bnd_e ee) (mu3'.tr (mu3 fr)) (b3.fy (fun j _ _ => fr y (by omega) j)))
        have k1 := e_inN (μ := sI μ g2) (i := k) (n := 1) (c := 1) (by omega) (by decide) (by decide)
        have k24 := e_in24 (μ := sI μ g2) (k := k) (by omega)
        refine b_X12_readItem_92 (j0 := o + 8 + 3 * F (o + 2)) (hw12_r0 := hw) (hi_j0 := rfl) (hb := by omega) (h := fun c1 c2 => ?_) (hc_toldRead := fun c1 c2 => ?_) (hc_variableRead := fun c1 => ?_)
        · rw [w2] at c1 c2 ⊢
          have q1 := k1.mp c1
          have q2 := k24.mp c2
          have es : pFst T n F o k (tB T n q) = .ok (0, tB T n q) := by unfold pFst; rw [if_neg (by omega), if_neg (by omega)]
          exact A g2 (0, tB T n q) es mu2 r2 P2
        · rw [w2] at c1 c2 ⊢
          have q1 := k1.mp c1
          have q2 : 2 ≤ k ∧ k ≤ 4 := Decidable.byContradiction fun z => c2 (k24.mpr z)
          have es : pFst T n F o k (tB T n q) = pTold T n F o (tB T n q) := by unfold pFst; rw [if_neg (by omega), if_pos (by omega)]
          refine m_toldL (F := upd1 F (o + 8 + 3 * F (o + 2)) k) hw P2.1 r2 (by omega) P2.2.2.2.1 (fun l hl => by rw [l4 l hl]; exact i7 l hl) (fun g5 e' v d1 d2 d3 => b_X12_readItem_144 ?_) (fun g5 b d1 d2 d3 => b_X12_readItem_144 ?_)
          · rw [pTold_cg l4] at d1
            exact AE g5 e' v (es.trans d1) (mu2.tr d2.mu) d3 (P2.mg d2).1
          · rw [pTold_cg l4] at d1
            exact A g5 b (es.trans d1) (mu2.tr d2.mu) d3 (P2.mg d2)
        · rw [w2] at c1 ⊢
          have q1 : k ≤ 1 := Decidable.byContradiction fun z => c1 (k1.mpr z)
          have es : pFst T n F o k (tB T n q) = pVar T n (tB T n q) := by unfold pFst; rw [if_pos (by omega)]
          exact m_varL hw P2.1 r2 (fun g5 e' d1 d2 d3 => b_X12_readItem_122 (AE g5 e' _ (es.trans d1) (mu2.tr d2.mu) d3 (P2.mg d2).1)) (fun g5 b d1 _ d2 d3 => b_X12_readItem_122 (A g5 b (es.trans d1) (mu2.tr d2.mu) d3 (P2.mg d2)))
      have q5 : (nI k = (5 : Int32)) ↔ k = 5 := nI_eq (b := 5) (by omega) (by decide)
      have l5 : (nI k ≤ (5 : Int32)) ↔ k ≤ 5 := nI_leI (b := 5) (by omega) (by decide)
      have h1 : (nI h < (1 : Int32)) ↔ h < 1 := nI_ltI (b := 1) (by omega) (by decide)
      have h2 : ((2 : Int32) ≤ nI h) ↔ 2 ≤ h := nI_leI (a := 2) (by decide) (by omega)
      have F54 : (k = 5 → 1 ≤ h) → G X (Rm (d + 3)) mX12_readItem 54 [(0, .ref y), (1, .int (nI o)), (2, .int (nI h)), (3, .int (nI k))] [] (sI μ f) 0 0 K := fun c5 => by
        refine b_X12_readItem_54 (h := fun c => F71 ?_) (h_2 := fun c c' => F71 ?_) (h_3 := fun c c' => F64 ?_)
        · rw [l5] at c
          unfold tkn
          by_cases w : k = 5
          · rw [if_pos w]; exact c5 w
          · rw [if_neg w, if_neg (by omega)]; omega
        · rw [l5] at c; rw [h2] at c'
          unfold tkn
          rw [if_neg (by omega), if_pos (by omega)]; exact c'
        · rw [l5] at c; rw [h2] at c'
          unfold tkn
          rw [if_neg (by omega), if_pos (by omega)]; omega
      refine b_X12_readItem_4 (hw12_r0 := hw) (hb := fun _ => by omega) (h := fun _ _ c => F54 (fun w => absurd (q5.mpr w) c)) (h_2 := fun _ _ c c' => F64 ?_) (h_3 := fun _ _ c c' => F54 (fun _ => ?_)) (hc_fails := fun _ c => absurd c n12) (hc_fails_2 := fun c => absurd c n07)
      · rw [q5] at c; rw [h1] at c'
        unfold tkn
        rw [if_pos c]; exact c'
      · rw [h1] at c'; omega
    · rw [if_pos (by omega)] at hE
      have i0 := e07.mpr k7
      refine b_X12_readItem_4 (hw12_r0 := hw) (hb := fun c => absurd i0 c) (h := fun c => absurd i0 c) (h_2 := fun c => absurd i0 c) (h_3 := fun c => absurd i0 c) (hc_fails := fun c => absurd i0 c) (hc_fails_2 := fun _ => ?_)
      rw [rT_n lv.2.2.2.2.2] at hE
      exact m_failL (c := 2) hw hq lv (by decide) (fun g mg br => b_X12_readItem_22 (hE g _ _ rfl mg.mu br))
end P67
