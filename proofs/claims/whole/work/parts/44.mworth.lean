theorem bitI : ∀ x, x < 8 → ∀ q, q < 3 → ((((nI x) >>> ((nI q) &&& 31)) &&& 1 = (1 : Int32)) ↔ x / 2 ^ q % 2 = 1) := by decide
section P44
variable {X : cX} {d : Nat} {μ : mM} {K : Option Value → mM → Prop} {f : Nat → Nat → Int32} {a s y : Nat} {p F st : Nat → Nat} {o : Nat}
/-- what a formula needs of the reference -/
def MW (f : Nat → Nat → Int32) (y : Nat) (p F : Nat → Nat) : Prop := Pg0 f y p ∧ (∀ k, k < 36 → f (y + 7) k = nI (wayF p (p 60) k)) ∧ ∀ k, k < 192 → f (y + 2) k = nI (F k)
theorem MW.fr {g : Nat → Nat → Int32} (h : MW f y p F) (h0 : ∀ z, z ≠ y + 8 → z ≠ y + 9 → ∀ j, g z j = f z j) : MW g y p F :=
  ⟨h.1.fr (fun k _ => h0 _ (by omega) (by omega) k), fun k hk => by rw [h0 _ (by omega) (by omega)]; exact h.2.1 k hk, fun k hk => by rw [h0 _ (by omega) (by omega)]; exact h.2.2 k hk⟩
theorem m_told {i L : Nat} (hw : WF12 μ y) (hp : okP p) (hm : MW f y p F) (hL : L ≤ 3) (ho : o + 8 + 3 * i + 2 < 192) (hst : ∀ q, q < L → f (y + 8) q = nI (st q) ∧ st q < p 60) (hk : fK F o i < 5) (h1 : fK F o i < 2 → fX F o i < 3) (h2 : 2 ≤ fK F o i → fK F o i < 5 → fX F o i < L) (h3 : fK F o i < 4 → fY F o i < L) (hK : K (some (.int (nI (tru p st (fK F o i) (fX F o i) (fY F o i))))) (sI μ f)) : Ct X (Rm (d + 2)) mX12_told [.ref y, .int (nI (o + 8 + 3 * i))] (sI μ f) K := by
  have h6 := hp.1
  have st6 : ∀ q, q < L → st q < 6 := fun q hq => by have := (hst q hq).2; omega
  have ek : iv (sI μ f) (y + 2) (o + 8 + 3 * i) = nI (fK F o i) := hm.2.2 _ (by omega)
  have ex : iv (sI μ f) (y + 2) (o + 8 + 3 * i + 1) = nI (fX F o i) := hm.2.2 _ (by omega)
  have ey : iv (sI μ f) (y + 2) (o + 8 + 3 * i + 2) = nI (fY F o i) := hm.2.2 _ (by omega)
  have eqk : ∀ {n : Nat}, n < 2 ^ 31 → iv (sI μ f) (y + 2) (o + 8 + 3 * i) = nI n → fK F o i = n := fun hn h => by rw [ek] at h; exact (nI_eq (by omega) hn).mp h
  have e0 : iv (sI μ f) (y + 2) (o + 8 + 3 * i) = 0 → fK F o i = 0 := eqk (n := 0) (by decide)
  have e1 : iv (sI μ f) (y + 2) (o + 8 + 3 * i) = 1 → fK F o i = 1 := eqk (n := 1) (by decide)
  have e2 : iv (sI μ f) (y + 2) (o + 8 + 3 * i) = 2 → fK F o i = 2 := eqk (n := 2) (by decide)
  have e3 : iv (sI μ f) (y + 2) (o + 8 + 3 * i) = 3 → fK F o i = 3 := eqk (n := 3) (by decide)
  have e4 : ((iv (sI μ f) (y + 2) (o + 8 + 3 * i)).toInt < 0 ∨ 3 < (iv (sI μ f) (y + 2) (o + 8 + 3 * i)).toInt) → fK F o i = 4 := fun h => by rw [ek, nI_toInt (by omega)] at h; omega
  have pm : ∀ k, k < 61 → iv (sI μ f) (y + 1) k = nI (p k) := fun k hk => hm.1 k hk
  unfold tru at hK
  refine Ct_of rfl (Nat.le_of_ble_eq_true rfl) (b_X12_told_0 (j0 := fY F o i) (j1 := fX F o i) (j2 := st (fY F o i)) (j3 := st (fX F o i)) (hw12_r0 := hw) (hb := by omega) (hb_2 := by omega) (hb_3 := by omega) (hi_j0 := fun _ => ey) (hb_4 := fun q => by have := h3 (by have := e0 q; omega); omega) (hi_j1 := fun _ => ex) (hi_j2 := fun q => (hst _ (h3 (by have := e0 q; omega))).1) (hs := fun q => by have := h1 (by have := e0 q; omega); have := st6 _ (h3 (by have := e0 q; omega)); omega) (hK := fun q => ?_) (hi_j0_2 := fun _ => ey) (hb_5 := fun q => by have := h3 (by have := e1 q; omega); omega) (hc_reachOf := fun q => ?_) (hi_j1_2 := fun _ => ex) (hb_6 := fun q => by have := h2 (by have := e2 q; omega) hk; omega) (hi_j0_3 := fun _ => ey) (hb_7 := fun q => by have := h3 (by have := e2 q; omega); omega) (hi_j3 := fun q => (hst _ (h2 (by have := e2 q; omega) hk)).1) (hi_j2_2 := fun q => (hst _ (h3 (by have := e2 q; omega))).1) (hs_2 := fun q => by have := st6 _ (h2 (by have := e2 q; omega) hk); have := st6 _ (h3 (by have := e2 q; omega)); omega) (hK_2 := fun q => ?_) (hi_j1_3 := fun _ => ex) (hb_8 := fun q => by have := h2 (by have := e3 q; omega) hk; omega) (hi_j0_4 := fun _ => ey) (hb_9 := fun q => by have := h3 (by have := e3 q; omega); omega) (hi_j3_2 := fun q => (hst _ (h2 (by have := e3 q; omega) hk)).1) (hs_3 := fun q _ => by have := st6 _ (h2 (by have := e3 q; omega) hk); omega) (hK_3 := fun q => ?_) (hi_j1_4 := fun _ => ex) (hb_10 := fun q => by have := h2 (by have := e4 q; omega) hk; omega) (hi_j3_3 := fun q => (hst _ (h2 (by have := e4 q; omega) hk)).1) (hb_11 := fun q => by have := st6 _ (h2 (by have := e4 q; omega) hk); omega) (hK_4 := fun q w => ?_) (hK_5 := fun q w => ?_))
  · have k0 := e0 q
    rw [if_pos k0] at hK
    have := h1 (by omega)
    have := st6 _ (h3 (by omega))
    have e9 : e_X12_atOf (sI μ f) y (fX F o i) (st (fY F o i)) = nI (p (6 + 6 * fX F o i + st (fY F o i))) := pm _ (by omega)
    rw [e9]; exact hK
  · have k0 := e1 q
    rw [if_neg (by omega), if_pos k0] at hK
    have e9 : iv (sI μ f) (y + 8) (fY F o i) = nI (st (fY F o i)) := (hst _ (h3 (by omega))).1
    rw [ex, e9]
    exact m_reach hw hm.1 hp hm.2.1 (h1 (by omega)) (st6 _ (h3 (by omega))) (b_X12_told_79 hK)
  · have k0 := e2 q
    rw [if_neg (by omega), if_neg (by omega), if_pos k0] at hK
    have := st6 _ (h2 (by omega) hk)
    have := st6 _ (h3 (by omega))
    have e9 : e_X12_nextOf (sI μ f) y (st (fX F o i)) (st (fY F o i)) = nI (p (24 + 6 * st (fX F o i) + st (fY F o i))) := pm _ (by omega)
    rw [e9]; exact hK
  · have k0 := e3 q
    rw [if_neg (by omega), if_neg (by omega), if_neg (by omega), if_pos k0] at hK
    have s1 := st6 _ (h2 (by omega) hk)
    have s2 := st6 _ (h3 (by omega))
    have e9 : iv (sI μ f) (y + 8) (fY F o i) = nI (st (fY F o i)) := (hst _ (h3 (by omega))).1
    have e8 : e_X12_sameOf (sI μ f) y (st (fX F o i)) (nI (st (fY F o i))) = nI (samP p (st (fX F o i)) (st (fY F o i))) := by
      unfold e_X12_sameOf samP
      have e7 := pm (st (fX F o i)) (by omega)
      have l1 := hp.2.1 _ s1
      by_cases hij : st (fX F o i) = st (fY F o i)
      · rw [if_pos (by rw [hij]), if_pos hij]
        by_cases z : p (st (fX F o i)) = 1
        · rw [if_pos (by rw [e7, z]; rfl), if_pos z]; rfl
        · rw [if_neg (by rw [e7]; intro w; exact z ((nI_eq (b := 1) (by omega) (by decide)).mp w)), if_neg z]; rfl
      · rw [if_neg (fun w => hij ((nI_eq (by omega) (by omega)).mp w)), if_neg hij]; rfl
    rw [e9, e8]; exact hK
  · have k0 := e4 q
    have s1 := st6 _ (h2 (by omega) hk)
    have l1 := hp.2.1 _ s1
    rw [pm _ (by omega)] at w
    have w2 : ¬ p (st (fX F o i)) = 1 := fun z => w (by rw [z]; rfl)
    rw [if_neg (by omega), if_neg (by omega), if_neg (by omega), if_neg (by omega), if_neg w2] at hK
    exact hK
  · have k0 := e4 q
    have s1 := st6 _ (h2 (by omega) hk)
    have l1 := hp.2.1 _ s1
    rw [pm _ (by omega)] at w
    have w2 : p (st (fX F o i)) = 1 := (nI_eq (b := 1) (by omega) (by decide)).mp w
    rw [if_neg (by omega), if_neg (by omega), if_neg (by omega), if_neg (by omega), if_pos w2] at hK
    exact hK
theorem m_items (hw : WF12 μ y) (hp : okP p) (hm : MW f y p F) (hF : okF F o) (ho : o + 48 ≤ 192) (hst : ∀ q, q < F o → f (y + 8) q = nI (st q) ∧ st q < p 60) (hK : ∀ f', (∀ z, z ≠ y + 9 → ∀ j, f' z j = f z j) → K (some (.int (nI (val p st F o)))) (sI μ f')) : Ct X (Rm (d + 3)) mX12_itemsOf [.ref y, .int (nI o)] (sI μ f) K := by
  have h6 := hp.1
  have hI := hF.2.2.1
  refine Ct_of rfl (Nat.le_of_ble_eq_true rfl) (b_X12_itemsOf_0 ?_)
  have st6 : ∀ q, q < F o → st q < 6 := fun q hq => by have := (hst q hq).2; omega
  have mg : ∀ g, (∀ z, z ≠ y + 9 → ∀ j, g z j = f z j) → MW g y p F := fun g h => hm.fr (fun z _ h2 j => h z h2 j)
  have H : ∀ i, i ≤ F (o + 2) → ∀ g, (∀ z, z ≠ y + 9 → ∀ j, g z j = f z j) → (∀ j, j < hg F o i → g (y + 9) j = nI (ev p st F o i j)) → G X (Rm (d + 3)) mX12_itemsOf 4 [(0, .ref y), (1, .int (nI o)), (2, .int (nI (hg F o i))), (3, .int (nI i))] [] (sI μ g) 0 0 K := by
    refine dn (F (o + 2)) ?_ ?_
    · intro g q1 q2
      have e1 : iv (sI μ g) (y + 2) (o + 2) = nI (F (o + 2)) := (mg g q1).2.2 _ (by omega)
      have e0 : iv (sI μ g) (y + 9) 0 = nI (val p st F o) := q2 0 (by rw [hF.2.2.2.2.1]; decide)
      refine b_X12_itemsOf_4 (j0 := 0) (j1 := 0) (j2 := 0) (hw12_r0 := hw) (hb := by omega) (hK := fun _ => by rw [e0]; exact hK g q1) (hb_2 := ?_) (hi_j0 := ?_) (hb_3 := ?_) (hi_j1 := ?_) (hb_4 := ?_) (h := ?_) (hi_j0_2 := ?_) (hb_5 := ?_) (hi_j1_2 := ?_) (hb_6 := ?_) (h_2 := ?_) (hi_j2 := ?_) (hb_7 := ?_) (h_3 := ?_) (hc_told := ?_) <;> (intro z; rw [e1] at z; exact absurd (le_r _) z)
    · intro i hi ih g q1 q2
      have mgg := mg g q1
      have e1 : iv (sI μ g) (y + 2) (o + 2) = nI (F (o + 2)) := mgg.2.2 _ (by omega)
      have ek : iv (sI μ g) (y + 2) (o + 8 + 3 * i) = nI (fK F o i) := mgg.2.2 _ (by omega)
      obtain ⟨k7, k5, k6, hx1, hx2, hy⟩ := hF.2.2.2.2.2 i hi
      have hgl := hg_le F o i
      have evl := ev_le (st := st) (F := F) (o := o) hp hF.1 st6 i (fun r hr => hF.2.2.2.2.2 r (by omega))
      have eq5 : (iv (sI μ g) (y + 2) (o + 8 + 3 * i) = (5 : Int32)) ↔ fK F o i = 5 := by rw [ek]; exact nI_eq (b := 5) (by omega) (by decide)
      have eq6 : (iv (sI μ g) (y + 2) (o + 8 + 3 * i) = (6 : Int32)) ↔ fK F o i = 6 := by rw [ek]; exact nI_eq (b := 6) (by omega) (by decide)
      have ge5 : ((5 : Int32) ≤ iv (sI μ g) (y + 2) (o + 8 + 3 * i)) ↔ 5 ≤ fK F o i := by rw [ek]; exact nI_leI (a := 5) (by decide) (by omega)
      have v0 := evl (hg F o i - 2)
      have v1 := evl (hg F o i - 1)
      have two : 6 ≤ fK F o i → nI (hg F o i) + -1 = nI (hg F o i - 1) ∧ nI (hg F o i) + -1 - 1 = nI (hg F o i - 2) := fun z => by
        have := k6 z
        have w1 : nI (hg F o i) + -1 = nI (hg F o i - 1) := by rw [show hg F o i = (hg F o i - 1) + 1 by omega, pk_m1]; congr 1
        refine ⟨w1, ?_⟩
        rw [w1, show hg F o i - 1 = (hg F o i - 2) + 1 by omega, nI_pred]
      have x0 : 6 ≤ fK F o i → iv (sI μ g) (y + 9) (hg F o i - 2) = nI (ev p st F o i (hg F o i - 2)) := fun z => q2 _ (by have := k6 z; omega)
      have x1 : 5 ≤ fK F o i → iv (sI μ g) (y + 9) (hg F o i - 1) = nI (ev p st F o i (hg F o i - 1)) := fun z => q2 _ (by
        by_cases w : fK F o i = 5
        · have := k5 w; omega
        · have := k6 (by omega); omega)
      have hgs2 : 6 ≤ fK F o i → hg F o (i + 1) = hg F o i - 1 := fun z => by
        show (if fK F o i < 5 then _ else if fK F o i = 5 then _ else hg F o i - 1) = _
        rw [if_neg (by omega), if_neg (by omega)]
      have S2 : 6 ≤ fK F o i → ∀ t : Nat, ev p st F o (i + 1) = upd1 (ev p st F o i) (hg F o i - 2) t → G X (Rm (d + 3)) mX12_itemsOf 140 [(0, .ref y), (1, .int (nI o)), (2, .int (nI (hg F o i) + -1)), (3, .int (nI i))] [.int (nI t), .int (nI (hg F o i) + -1 - 1), .ref (y + 9)] (sI μ g) 0 0 K := fun z t ht => by
        have := k6 z
        refine b_X12_itemsOf_140 (n0 := 13) (j0 := hg F o i - 2) (hk_q0 := w12_k19 hw) (hi_j0 := (two z).2) (hb := by omega) (h := ?_)
        rw [wi_sI]
        refine b_X12_itemsOf_141 ?_
        rw [(two z).1, ← hgs2 z]
        refine ih _ (fun w hw j => by rw [u2_x hw]; exact q1 w hw j) (fun j hj => ?_)
        rw [hgs2 z] at hj
        rw [ht]
        by_cases e : j = hg F o i - 2
        · rw [e, u2_s, upd1_s]
        · rw [u2_k e, upd1_n e]; exact q2 j (by omega)
      refine b_X12_itemsOf_4 (j0 := hg F o i - 2) (j1 := hg F o i - 1) (j2 := hg F o i - 1) (hw12_r0 := hw) (hb := by omega) (hK := fun z => absurd z (by rw [e1]; exact ge_c hi (by omega))) (hb_2 := fun _ => by omega) (hi_j0 := fun _ z1 z2 z3 => (two (by have := ge5.mp z1; have : fK F o i ≠ 5 := fun w => z2 (eq5.mpr w); omega)).2) (hb_3 := fun _ _ _ _ => by omega) (hi_j1 := fun _ z1 z2 z3 => (two (by have := ge5.mp z1; have : fK F o i ≠ 5 := fun w => z2 (eq5.mpr w); omega)).1) (hb_4 := fun _ _ _ _ => by omega) (h := fun _ z1 z2 z3 => ?_) (hi_j0_2 := fun _ z1 z2 z3 => (two (by have := eq6.mp z3; omega)).2) (hb_5 := fun _ _ _ _ => by omega) (hi_j1_2 := fun _ z1 z2 z3 => (two (by have := eq6.mp z3; omega)).1) (hb_6 := fun _ _ _ _ => by omega) (h_2 := fun _ z1 z2 z3 => ?_) (hi_j2 := fun _ z1 z2 => ?_) (hb_7 := fun _ _ _ => by omega) (h_3 := fun _ z1 z2 => ?_) (hc_told := fun _ z => ?_)
      · rw [ge5] at z1
        rw [eq5] at z2
        rw [eq6] at z3
        rw [x0 (by omega), x1 (by omega), orI _ (by omega) (by omega)]
        refine S2 (by omega) _ ?_
        show (if fK F o i < 5 then _ else if fK F o i = 5 then _ else if fK F o i = 6 then _ else _) = _
        rw [if_neg (by omega), if_neg (by omega), if_neg (by omega)]
      · rw [eq6] at z3
        rw [x0 (by omega), x1 (by omega), andI _ (by omega) (by omega)]
        refine S2 (by omega) _ ?_
        show (if fK F o i < 5 then _ else if fK F o i = 5 then _ else if fK F o i = 6 then _ else _) = _
        rw [if_neg (by omega), if_neg (by omega), if_pos z3]
      · have := k5 (eq5.mp z2)
        exact pk_sub (b := 1) (by omega)
      · rw [eq5] at z2
        have := k5 z2
        rw [x1 (by omega), sub2 v1, wi_sI]
        refine b_X12_itemsOf_141 ?_
        have hgs : hg F o (i + 1) = hg F o i := by
          show (if fK F o i < 5 then _ else if fK F o i = 5 then _ else _) = _
          rw [if_neg (by omega), if_pos z2]
        rw [← hgs]
        refine ih _ (fun w hw j => by rw [u2_x hw]; exact q1 w hw j) (fun j hj => ?_)
        rw [hgs] at hj
        have evs : ev p st F o (i + 1) = upd1 (ev p st F o i) (hg F o i - 1) (2 - ev p st F o i (hg F o i - 1)) := by
          show (if fK F o i < 5 then _ else if fK F o i = 5 then _ else _) = _
          rw [if_neg (by omega), if_pos z2]
        rw [evs, hgs]
        by_cases e : j = hg F o i - 1
        · rw [e, u2_s, upd1_s]
        · rw [u2_k e, upd1_n e]; exact q2 j (by omega)
      · rw [ge5] at z
        have k4 : fK F o i < 5 := by omega
        rw [show nI o + 8 + (3 : Int32) * nI i = nI (o + 8 + 3 * i) by rw [show (3 : Int32) = nI 3 from rfl, show (8 : Int32) = nI 8 from rfl, pk_mul, nI_add, nI_add]]
        refine m_told (st := st) (L := F o) hw hp mgg hF.1 (by omega) (fun q hq => ⟨by rw [q1 _ (by omega)]; exact (hst q hq).1, (hst q hq).2⟩) k4 hx1 hx2 hy ?_
        refine b_X12_itemsOf_52 (n0 := 13) (j0 := hg F o i) (hk_q0 := w12_k19 hw) (hi_j0 := rfl) (hb := by omega) (h := ?_)
        rw [wi_sI]
        refine b_X12_itemsOf_141 ?_
        have hgs : hg F o (i + 1) = hg F o i + 1 := if_pos k4
        rw [nI_1, ← hgs]
        refine ih _ (fun w hw j => by rw [u2_x hw]; exact q1 w hw j) (fun j hj => ?_)
        rw [hgs] at hj
        have evs : ev p st F o (i + 1) = upd1 (ev p st F o i) (hg F o i) (tru p st (fK F o i) (fX F o i) (fY F o i)) := if_pos k4
        rw [evs]
        by_cases e : j = hg F o i
        · rw [e, u2_s, upd1_s]
        · rw [u2_k e, upd1_n e]; exact q2 j (by omega)
  exact H 0 (Nat.zero_le _) f (fun _ _ _ => rfl) (fun j hj => absurd hj (Nat.not_lt_zero _))
theorem beginsI {q : Nat} (hm : MW f y p F) (hF : okF F o) (ho : o + 48 ≤ 192) (hq : q < 3) : e_X12_begins (sI μ f) y o (nI q) = nI (if bitF F o q = 1 then 2 else 0) := by
  have e1 : iv (sI μ f) (y + 2) (o + 1) = nI (F (o + 1)) := hm.2.2 _ (by omega)
  have e2 := bitI (F (o + 1)) hF.2.1 q hq
  unfold e_X12_begins
  rw [e1]
  by_cases z : bitF F o q = 1
  · rw [if_pos (e2.mpr z), if_pos z]; rfl
  · rw [if_neg (fun w => z (e2.mp w)), if_neg z]; rfl
theorem joinedI {q x z : Nat} (hm : MW f y p F) (hF : okF F o) (ho : o + 48 ≤ 192) (hq : q < 3) (hx : x ≤ 2) (hz : z ≤ 2) : e_X12_joined (sI μ f) y o (nI q) (nI x) (nI z) = nI (if bitF F o q = 1 then min x z else max x z) := by
  have e1 : iv (sI μ f) (y + 2) (o + 1) = nI (F (o + 1)) := hm.2.2 _ (by omega)
  have e2 := bitI (F (o + 1)) hF.2.1 q hq
  unfold e_X12_joined
  rw [e1]
  by_cases w : bitF F o q = 1
  · rw [if_pos (e2.mpr w), if_pos w, andI _ (by omega) (by omega)]
  · rw [if_neg (fun v => w (e2.mp v)), if_neg w, orI _ (by omega) (by omega)]
/-- the fold over the nodes so far -/
def wrI (p F : Nat → Nat) (o r q : Nat) (st : Nat → Nat) (i : Nat) : Nat := if bitF F o q = 1 then mno (fun i => wrt p F o r (q + 1) (upd1 st q i)) i else mxo (fun i => wrt p F o r (q + 1) (upd1 st q i)) i
theorem wrI_0 {r q : Nat} : wrI p F o r q st 0 = if bitF F o q = 1 then 2 else 0 := rfl
theorem wrI_s {r q i : Nat} : wrI p F o r q st (i + 1) = if bitF F o q = 1 then min (wrI p F o r q st i) (wrt p F o r (q + 1) (upd1 st q i)) else max (wrI p F o r q st i) (wrt p F o r (q + 1) (upd1 st q i)) := by
  unfold wrI
  split <;> rfl
theorem wrI_le {r q i : Nat} (hp : okP p) (hF : okF F o) (hq : q + (r + 1) = F o) (hst : ∀ k, k < q → st k < p 60) (hi : i ≤ p 60) : wrI p F o r q st i ≤ 2 := by
  unfold wrI
  split
  · exact mno_le _ _
  · exact mxo_le (fun j hj => wrt_le hp hF r (q + 1) _ (by omega) (fun k hk => by
      by_cases e : k = q
      · subst e; rw [upd1_s]; omega
      · rw [upd1_n e]; exact hst k (by omega)))
theorem upd_lt {q i : Nat} (hst : ∀ k, k < q → st k < p 60) (hi : i < p 60) : ∀ k, k < q + 1 → upd1 st q i k < p 60 := fun k hk => by
  by_cases e : k = q
  · subst e; rw [upd1_s]; exact hi
  · rw [upd1_n e]; exact hst k (by omega)
/-- the reference's stands for the first q letters -/
def SD (f : Nat → Nat → Int32) (y q : Nat) (p st : Nat → Nat) : Prop := ∀ k, k < q → f (y + 8) k = nI (st k) ∧ st k < p 60
theorem SD.up {g : Nat → Nat → Int32} {q i : Nat} (h : SD f y q p st) (h0 : ∀ k, k < q → g (y + 8) k = f (y + 8) k) (hi : i < p 60) : SD (u2 g (y + 8) q (nI i)) y (q + 1) p (upd1 st q i) := fun k hk => by
  by_cases e : k = q
  · subst e; rw [u2_s, upd1_s]; exact ⟨rfl, hi⟩
  · rw [u2_k e, upd1_n e, h0 k (by omega)]; exact h k (by omega)
theorem m_third (hw : WF12 μ y) (hp : okP p) (hm : MW f y p F) (hF : okF F o) (ho : o + 48 ≤ 192) (h2 : 2 ≤ F o) (hst : SD f y 2 p st) (hK : ∀ f', (∀ z, z ≠ y + 8 → z ≠ y + 9 → ∀ j, f' z j = f z j) → (∀ k, k < 2 → f' (y + 8) k = f (y + 8) k) → K (some (.int (nI (wrt p F o (F o - 2) 2 st)))) (sI μ f')) : Ct X (Rm (d + 4)) mX12_thirdOf [.ref y, .int (nI o)] (sI μ f) K := by
  have hL := hF.1
  have h6 := hp.1
  have e0 : iv (sI μ f) (y + 2) o = nI (F o) := hm.2.2 _ (by omega)
  have ge : ((3 : Int32) ≤ iv (sI μ f) (y + 2) o) ↔ 3 ≤ F o := by rw [e0]; exact nI_leI (a := 3) (by decide) (by omega)
  refine Ct_of rfl (Nat.le_of_ble_eq_true rfl) (b_X12_thirdOf_0 (hw12_r0 := hw) (hb := by omega) (hs := fun _ => by omega) (h := fun z => ?_) (hc_itemsOf := fun z => ?_))
  · have h3 := ge.mp z
    have eL : F o - 2 = 0 + 1 := by omega
    rw [show (2 : Int32) = nI 2 from rfl, beginsI hm hF ho (by decide), ← wrI_0 (p := p) (st := st) (r := 0)]
    have L : ∀ i, i ≤ p 60 → ∀ g, (∀ z, z ≠ y + 8 → z ≠ y + 9 → ∀ j, g z j = f z j) → (∀ k, k < 2 → g (y + 8) k = f (y + 8) k) → G X (Rm (d + 4)) mX12_thirdOf 25 [(0, .ref y), (1, .int (nI o)), (2, .int (nI (wrI p F o 0 2 st i))), (3, .int (nI i))] [] (sI μ g) 0 0 K := by
      refine dn (p 60) ?_ ?_
      · intro g q1 q2
        have nd : e_X12_nodes (sI μ g) y = nI (p 60) := (hm.fr q1).1 60 (by decide)
        refine b_X12_thirdOf_25 (hw12_r0 := hw) (hK := fun _ => ?_) (hc_itemsOf := fun z => absurd (by rw [nd]; exact le_r _) z)
        have := hK g q1 q2
        rw [eL] at this
        exact this
      · intro i hi ih g q1 q2
        have nd : e_X12_nodes (sI μ g) y = nI (p 60) := (hm.fr q1).1 60 (by decide)
        refine b_X12_thirdOf_25 (hw12_r0 := hw) (hK := fun z => absurd z (by rw [nd]; exact ge_c hi (by omega))) (hc_itemsOf := fun _ => ?_)
        rw [wi_sI]
        have q1' : ∀ z, z ≠ y + 8 → z ≠ y + 9 → ∀ j, (u2 g (y + 8) 2 (nI i)) z j = f z j := fun z h1 h2 j => by rw [u2_x h1]; exact q1 z h1 h2 j
        have sd := SD.up (i := i) hst q2 hi
        refine m_items (st := upd1 st 2 i) hw hp (hm.fr q1') hF ho (fun k hk => sd k (by omega)) (fun f2 r1 => ?_)
        have q1'' : ∀ z, z ≠ y + 8 → z ≠ y + 9 → ∀ j, f2 z j = f z j := fun z h1 h2 j => (r1 z h2 j).trans (q1' z h1 h2 j)
        refine b_X12_thirdOf_49 (j0 := o) (hi_j0 := rfl) (hw12_q0 := hw) (hs := by omega) (h := ?_)
        have wl : wrt p F o 0 3 (upd1 st 2 i) ≤ 2 := wrt_le hp hF 0 3 _ (by omega) (upd_lt (fun k hk => (hst k hk).2) hi)
        have wl2 := wrI_le (st := st) (r := 0) (q := 2) (i := i) hp hF (by omega) (fun k hk => (hst k hk).2) (by omega)
        have ej := joinedI (μ := μ) (x := wrI p F o 0 2 st i) (z := wrt p F o 0 3 (upd1 st 2 i)) (hm.fr q1'') hF ho (by decide : 2 < 3) wl2 wl
        rw [← wrI_s] at ej
        have e9 : val p (upd1 st 2 i) F o = wrt p F o 0 3 (upd1 st 2 i) := rfl
        rw [e9, show (2 : Int32) = nI 2 from rfl, ej]
        exact ih f2 q1'' (fun k hk => by rw [r1 _ (by omega), u2_k (by omega)]; exact q2 k hk)
    exact L 0 (Nat.zero_le _) f (fun _ _ _ _ => rfl) (fun _ _ => rfl)
  · have h3 : F o = 2 := by rw [ge] at z; omega
    refine m_items (st := st) hw hp hm hF ho (fun k hk => hst k (by omega)) (fun f' r1 => b_X12_thirdOf_15 ?_)
    have := hK f' (fun z _ h j => r1 z h j) (fun k _ => r1 _ (by omega) k)
    rw [show F o - 2 = 0 by omega] at this
    exact this
theorem m_second (hw : WF12 μ y) (hp : okP p) (hm : MW f y p F) (hF : okF F o) (ho : o + 48 ≤ 192) (h1 : 1 ≤ F o) (hst : SD f y 1 p st) (hK : ∀ f', (∀ z, z ≠ y + 8 → z ≠ y + 9 → ∀ j, f' z j = f z j) → (∀ k, k < 1 → f' (y + 8) k = f (y + 8) k) → K (some (.int (nI (wrt p F o (F o - 1) 1 st)))) (sI μ f')) : Ct X (Rm (d + 5)) mX12_secondOf [.ref y, .int (nI o)] (sI μ f) K := by
  have hL := hF.1
  have h6 := hp.1
  have e0 : iv (sI μ f) (y + 2) o = nI (F o) := hm.2.2 _ (by omega)
  have ge : ((2 : Int32) ≤ iv (sI μ f) (y + 2) o) ↔ 2 ≤ F o := by rw [e0]; exact nI_leI (a := 2) (by decide) (by omega)
  refine Ct_of rfl (Nat.le_of_ble_eq_true rfl) (b_X12_secondOf_0 (hw12_r0 := hw) (hb := by omega) (hs := fun _ => by omega) (h := fun z => ?_) (hc_itemsOf := fun z => ?_))
  · have h3 := ge.mp z
    have eL : F o - 1 = (F o - 2) + 1 := by omega
    rw [show (1 : Int32) = nI 1 from rfl, beginsI hm hF ho (by decide), ← wrI_0 (p := p) (st := st) (r := F o - 2)]
    have L : ∀ i, i ≤ p 60 → ∀ g, (∀ z, z ≠ y + 8 → z ≠ y + 9 → ∀ j, g z j = f z j) → (∀ k, k < 1 → g (y + 8) k = f (y + 8) k) → G X (Rm (d + 5)) mX12_secondOf 25 [(0, .ref y), (1, .int (nI o)), (2, .int (nI (wrI p F o (F o - 2) 1 st i))), (3, .int (nI i))] [] (sI μ g) 0 0 K := by
      refine dn (p 60) ?_ ?_
      · intro g q1 q2
        have nd : e_X12_nodes (sI μ g) y = nI (p 60) := (hm.fr q1).1 60 (by decide)
        refine b_X12_secondOf_25 (hw12_r0 := hw) (hK := fun _ => ?_) (hc_thirdOf := fun z => absurd (by rw [nd]; exact le_r _) z)
        have := hK g q1 q2
        rw [eL] at this
        exact this
      · intro i hi ih g q1 q2
        have nd : e_X12_nodes (sI μ g) y = nI (p 60) := (hm.fr q1).1 60 (by decide)
        refine b_X12_secondOf_25 (hw12_r0 := hw) (hK := fun z => absurd z (by rw [nd]; exact ge_c hi (by omega))) (hc_thirdOf := fun _ => ?_)
        rw [wi_sI]
        have q1' : ∀ z, z ≠ y + 8 → z ≠ y + 9 → ∀ j, (u2 g (y + 8) 1 (nI i)) z j = f z j := fun z h1 h2 j => by rw [u2_x h1]; exact q1 z h1 h2 j
        refine m_third (st := upd1 st 1 i) hw hp (hm.fr q1') hF ho h3 (SD.up (i := i) hst q2 hi) (fun f2 r1 r2 => ?_)
        have q1'' : ∀ z, z ≠ y + 8 → z ≠ y + 9 → ∀ j, f2 z j = f z j := fun z h1 h2 j => (r1 z h1 h2 j).trans (q1' z h1 h2 j)
        refine b_X12_secondOf_49 (j0 := o) (hi_j0 := rfl) (hw12_q0 := hw) (hs := by omega) (h := ?_)
        have wl : wrt p F o (F o - 2) 2 (upd1 st 1 i) ≤ 2 := wrt_le hp hF _ 2 _ (by omega) (upd_lt (fun k hk => (hst k hk).2) hi)
        have wl2 := wrI_le (st := st) (r := F o - 2) (q := 1) (i := i) hp hF (by omega) (fun k hk => (hst k hk).2) (by omega)
        have ej := joinedI (μ := μ) (x := wrI p F o (F o - 2) 1 st i) (z := wrt p F o (F o - 2) 2 (upd1 st 1 i)) (hm.fr q1'') hF ho (by decide : 1 < 3) wl2 wl
        rw [← wrI_s] at ej
        rw [show (1 : Int32) = nI 1 from rfl, ej]
        exact ih f2 q1'' (fun k hk => by rw [r2 k (by omega), u2_k (by omega)]; exact q2 k hk)
    exact L 0 (Nat.zero_le _) f (fun _ _ _ _ => rfl) (fun _ _ => rfl)
  · have h3 : F o = 1 := by rw [ge] at z; omega
    refine m_items (st := st) hw hp hm hF ho (fun k hk => hst k (by omega)) (fun f' r1 => b_X12_secondOf_15 ?_)
    have := hK f' (fun z _ h j => r1 z h j) (fun k _ => r1 _ (by omega) k)
    rw [show F o - 1 = 0 by omega] at this
    exact this
/-- behind the check: with the ways found -/
theorem m_ask19 (hw : WF12 μ y) (hp : okP p) (hm : MW f y p F) (hF : okF F o) (ho : o + 48 ≤ 192) (hK : ∀ f', (∀ z, z ≠ y + 8 → z ≠ y + 9 → ∀ j, f' z j = f z j) → K (some (.int (nI (wrt p F o (F o) 0 p)))) (sI μ f')) : G X (Rm (d + 6)) mX12_ask 19 [(0, .ref y), (2, .int (nI o))] [] (sI μ f) 0 0 K := by
  have hL := hF.1
  have h6 := hp.1
  have e0 : iv (sI μ f) (y + 2) o = nI (F o) := hm.2.2 _ (by omega)
  have ge : ((1 : Int32) ≤ iv (sI μ f) (y + 2) o) ↔ 1 ≤ F o := by rw [e0]; exact nI_leI (a := 1) (by decide) (by omega)
  have sd0 : ∀ g : Nat → Nat → Int32, SD g y 0 p p := fun g k hk => absurd hk (Nat.not_lt_zero _)
  refine b_X12_ask_19 (hw12_r0 := hw) (hb := by omega) (hs := fun _ => by omega) (h := fun z => ?_) (hc_itemsOf := fun z => ?_)
  · have h3 := ge.mp z
    have eL : F o = (F o - 1) + 1 := by omega
    rw [show (0 : Int32) = nI 0 from rfl, beginsI hm hF ho (by decide), ← wrI_0 (p := p) (st := p) (r := F o - 1)]
    have L : ∀ i, i ≤ p 60 → ∀ g, (∀ z, z ≠ y + 8 → z ≠ y + 9 → ∀ j, g z j = f z j) → G X (Rm (d + 6)) mX12_ask 45 [(0, .ref y), (2, .int (nI o)), (3, .int (nI (wrI p F o (F o - 1) 0 p i))), (4, .int (nI i))] [] (sI μ g) 0 0 K := by
      refine dn (p 60) ?_ ?_
      · intro g q1
        have nd : e_X12_nodes (sI μ g) y = nI (p 60) := (hm.fr q1).1 60 (by decide)
        refine b_X12_ask_45 (hw12_r0 := hw) (hK := fun _ => ?_) (hc_secondOf := fun z => absurd (by rw [nd]; exact le_r _) z)
        have := hK g q1
        have e8 : wrt p F o (F o) 0 p = wrI p F o (F o - 1) 0 p (p 60) := by
          have : ∀ n, n = (F o - 1) + 1 → wrt p F o n 0 p = wrI p F o (F o - 1) 0 p (p 60) := fun n hn => by rw [hn]; rfl
          exact this _ eL
        rw [e8] at this
        exact this
      · intro i hi ih g q1
        have nd : e_X12_nodes (sI μ g) y = nI (p 60) := (hm.fr q1).1 60 (by decide)
        refine b_X12_ask_45 (hw12_r0 := hw) (hK := fun z => absurd z (by rw [nd]; exact ge_c hi (by omega))) (hc_secondOf := fun _ => ?_)
        rw [wi_sI]
        have q1' : ∀ z, z ≠ y + 8 → z ≠ y + 9 → ∀ j, (u2 g (y + 8) 0 (nI i)) z j = f z j := fun z h1 h2 j => by rw [u2_x h1]; exact q1 z h1 h2 j
        refine m_second (st := upd1 p 0 i) hw hp (hm.fr q1') hF ho h3 (SD.up (i := i) (sd0 g) (fun _ _ => rfl) hi) (fun f2 r1 r2 => ?_)
        have q1'' : ∀ z, z ≠ y + 8 → z ≠ y + 9 → ∀ j, f2 z j = f z j := fun z h1 h2 j => (r1 z h1 h2 j).trans (q1' z h1 h2 j)
        refine b_X12_ask_71 (j0 := o) (hi_j0 := rfl) (hw12_q0 := hw) (hs := by omega) (h := ?_)
        have wl : wrt p F o (F o - 1) 1 (upd1 p 0 i) ≤ 2 := wrt_le hp hF _ 1 _ (by omega) (upd_lt (fun k hk => absurd hk (Nat.not_lt_zero _)) hi)
        have wl2 := wrI_le (st := p) (r := F o - 1) (q := 0) (i := i) hp hF (by omega) (fun k hk => absurd hk (Nat.not_lt_zero _)) (by omega)
        have ej := joinedI (μ := μ) (x := wrI p F o (F o - 1) 0 p i) (z := wrt p F o (F o - 1) 1 (upd1 p 0 i)) (hm.fr q1'') hF ho (by decide : 0 < 3) wl2 wl
        rw [← wrI_s] at ej
        rw [show (0 : Int32) = nI 0 from rfl, ej]
        exact ih f2 q1''
    exact L 0 (Nat.zero_le _) f (fun _ _ _ _ => rfl)
  · have h3 : F o = 0 := by rw [ge] at z; omega
    refine m_items (st := p) hw hp hm hF ho (fun k hk => by omega) (fun f' r1 => b_X12_ask_34 ?_)
    have := hK f' (fun z _ h j => r1 z h j)
    rw [h3] at this
    exact this
end P44
