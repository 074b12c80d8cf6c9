/-- the reference's places that a call about the shape leaves alone -/
def MF2 (f f' : Nat → Nat → Int32) (y : Nat) : Prop := (∀ z, z ≠ y → z ≠ y + 1 → ¬ (y + 7 ≤ z ∧ z ≤ y + 11) → z ≠ y + 13 → ∀ j, f' z j = f z j) ∧ (∀ k, 61 ≤ k → k < 183 → f' (y + 1) k = f (y + 1) k) ∧ ∀ k, k ≠ 22 → f' y k = f y k
theorem MFr.to2 {f g : Nat → Nat → Int32} {y : Nat} (h : MFr f g y) : MF2 f g y := ⟨fun z _ a b c j => h.1 z a b c j, fun k h1 _ => h.2 k h1, fun k _ => h.1 y (by omega) (by omega) (by omega) k⟩
theorem MF2.rf (f : Nat → Nat → Int32) (y : Nat) : MF2 f f y := ⟨fun _ _ _ _ _ _ => rfl, fun _ _ _ => rfl, fun _ _ => rfl⟩
theorem MF2.tr {f g h : Nat → Nat → Int32} {y : Nat} (h1 : MF2 f g y) (h2 : MF2 g h y) : MF2 f h y := ⟨fun z z0 a b c j => (h2.1 z z0 a b c j).trans (h1.1 z z0 a b c j), fun k hk hk2 => (h2.2.1 k hk hk2).trans (h1.2.1 k hk hk2), fun k hk => (h2.2.2 k hk).trans (h1.2.2 k hk)⟩
theorem MF2.up {f g : Nat → Nat → Int32} {y k : Nat} {v : Int32} (h1 : MF2 f g y) (hk : k < 61 ∨ 183 ≤ k) : MF2 f (u2 g (y + 1) k v) y := ⟨fun z z0 a b c j => by rw [u2_x a]; exact h1.1 z z0 a b c j, fun i hi hi2 => by rw [u2_k (by omega)]; exact h1.2.1 i hi hi2, fun i hi => by rw [u2_x (by omega)]; exact h1.2.2 i hi⟩
theorem MF2.us {f g : Nat → Nat → Int32} {y z0 k : Nat} {v : Int32} (h1 : MF2 f g y) (hz : (y + 7 ≤ z0 ∧ z0 ≤ y + 11) ∨ z0 = y + 13) : MF2 f (u2 g z0 k v) y := ⟨fun z zz a b c j => by rw [u2_x (by omega)]; exact h1.1 z zz a b c j, fun i hi hi2 => by rw [u2_x (by omega)]; exact h1.2.1 i hi hi2, fun i hi => by rw [u2_x (by omega)]; exact h1.2.2 i hi⟩
theorem Fr.to2 {f g : Nat → Nat → Int32} {y : Nat} (h : Fr f g (y + 7) 1) : MF2 f g y := ⟨fun z z0 a b c j => h z (by omega) j, fun k _ _ => h _ (by omega) k, fun k _ => h _ (by omega) k⟩
theorem Pg0.fr {f g : Nat → Nat → Int32} {y : Nat} {p : Nat → Nat} (h : Pg0 f y p) (h1 : ∀ k, k < 61 → g (y + 1) k = f (y + 1) k) : Pg0 g y p := fun k hk => by rw [h1 k hk]; exact h k hk
def emN (x : Nat) : Nat := if x = 3 then 2 ^ 32 - 4 else x
theorem emN_3 : nI (emN 3) = -4 := by decide
theorem emN_n {x : Nat} (h : x ≠ 3) : emN x = x := if_neg h
theorem emN_m4 {x : Nat} (h : x ≤ 3) : nI (emN x) = -4 ↔ x = 3 := by
  rcases (by omega : x = 0 ∨ x = 1 ∨ x = 2 ∨ x = 3) with rfl | rfl | rfl | rfl <;> decide
theorem emN_eq {x t : Nat} (h : x ≤ 3) (hx : x ≠ 3) (ht : t ≤ 2) : nI (emN x) = nI t ↔ x = t := by
  rw [emN_n hx]; exact nI_eq (by omega) (by omega)
theorem nI_ne4 {x : Nat} (h : x < 2 ^ 31) : ¬ nI x = -4 := fun q => by
  have e : (-4 : Int32) = nI (2 ^ 32 - 4) := by decide
  rw [e, nI_eqU (by omega) (by decide)] at q
  omega
section P34
variable {X : cX} {d : Nat} {μ : mM} {K : Option Value → mM → Prop} {f : Nat → Nat → Int32} {a b y v w : Nat} {p : Nat → Nat}
theorem m_copies {P Q : Nat} (hw : WF12 μ y) (hg : Pg f y P p) (hP : P + 61 ≤ 366) (hQ : Q + 61 ≤ 366) (hd : P + 61 ≤ Q ∨ Q + 61 ≤ P) (hK : ∀ f', (∀ z, z ≠ y + 1 → ∀ j, f' z j = f z j) → (∀ k, (k < Q ∨ Q + 61 ≤ k) → f' (y + 1) k = f (y + 1) k) → Pg f' y Q p → K none (sI μ f')) : Ct X (Rm d) mX12_copies [.ref y, .int (nI P), .int (nI Q)] (sI μ f) K := by
  refine Ct_of rfl (Nat.le_of_ble_eq_true rfl) (b_X12_copies_0 ?_)
  have H : ∀ c, c ≤ 61 → ∀ g, (∀ z, z ≠ y + 1 → ∀ j, g z j = f z j) → (∀ k, (k < Q ∨ Q + 61 ≤ k) → g (y + 1) k = f (y + 1) k) → (∀ k, k < c → g (y + 1) (Q + k) = nI (p k)) → G X (Rm d) mX12_copies 2 [(0, .ref y), (1, .int (nI P)), (2, .int (nI Q)), (3, .int (nI c))] [] (sI μ g) 0 0 K := by
    refine dn 61 ?_ ?_
    · intro g h1 h2 h3
      refine b_X12_copies_2 (hw12_r0 := hw) (hK := fun _ => hK g h1 h2 h3) (hb := ?_) (hb_2 := ?_) (h := ?_) <;> (intro c; exact absurd (le_r _) c)
    · intro c hc ih g h1 h2 h3
      refine b_X12_copies_2 (hw12_r0 := hw) (hK := fun z => absurd z (ge_c (n := 61) hc (by decide))) (hb := fun _ => by omega) (hb_2 := fun _ => by omega) (h := fun _ => ?_)
      have e : g (y + 1) (P + c) = nI (p c) := by rw [h2 _ (by omega)]; exact hg c hc
      rw [iv_sI, e, wi_sI]
      refine ih _ (fun z hz j => by rw [u2_x hz]; exact h1 z hz j) (fun k hk => by rw [u2_k (by omega)]; exact h2 k hk) (fun k hk => ?_)
      by_cases q : k = c
      · subst q; rw [u2_s]
      · rw [u2_k (by omega)]; exact h3 k (by omega)
  exact H 0 (Nat.zero_le _) f (fun _ _ _ => rfl) (fun _ _ => rfl) (fun k hk => absurd hk (Nat.not_lt_zero _))
theorem m_isAlike {i j md : Nat} (hw : WF12 μ y) (hg : Pg0 f y p) (hp : okP p) (hr : ∀ v k, v < 3 → k < p 60 → f (y + 11) (6 * v + k) = nI (rchP p v k)) (hi : i < p 60) (hj : j < p 60) (hmd : md ≤ 1) (hK : K (some (.int (nI (if alk p md i j = true then 1 else 0)))) (sI μ f)) : Ct X (Rm (d + 1)) mX12_isAlike [.ref y, .int (nI i), .int (nI j), .int (nI md)] (sI μ f) K := by
  have h6 := hp.1
  refine Ct_of rfl (Nat.le_of_ble_eq_true rfl) (b_X12_isAlike_0 ?_)
  have H : ∀ c, c ≤ 3 → G X (Rm (d + 1)) mX12_isAlike 6 [(0, .ref y), (1, .int (nI i)), (2, .int (nI j)), (3, .int (nI md)), (4, .int (nI (if (alF (fun v k => p (6 + 6 * v + k)) i j c && (decide (md = 0) || alF (rchP p) i j c)) = true then 1 else 0))), (5, .int (nI c))] [] (sI μ f) 0 0 K := by
    refine dn 3 ?_ ?_
    · refine b_X12_isAlike_6 (hw12_r0 := hw) (hK := fun _ => hK) (hz := fun _ => b01 (by split <;> omega)) (h := ?_) (hs := ?_) (hs_2 := ?_) (h_2 := ?_) (h_3 := ?_) (hb := ?_) (hb_2 := ?_) (h_4 := ?_) (h_5 := ?_) <;> (intro c; exact absurd (le_r _) c)
    · intro c hc ih
      have e1 : e_X12_atOf (sI μ f) y c i = nI (p (6 + 6 * c + i)) := hg _ (by omega)
      have e2 : e_X12_atOf (sI μ f) y c j = nI (p (6 + 6 * c + j)) := hg _ (by omega)
      have e3 : iv (sI μ f) (y + 11) (6 * c + i) = nI (rchP p c i) := hr c i hc hi
      have e4 : iv (sI μ f) (y + 11) (6 * c + j) = nI (rchP p c j) := hr c j hc hj
      have l1 := hp.2.2.1 c i hc (by omega)
      have l2 := hp.2.2.1 c j hc (by omega)
      have l3 := rchP_le hp (v := c) (j := i) hc
      have l4 := rchP_le hp (v := c) (j := j) hc
      have sv : (alF (fun v k => p (6 + 6 * v + k)) i j (c + 1) && (decide (md = 0) || alF (rchP p) i j (c + 1))) = ((alF (fun v k => p (6 + 6 * v + k)) i j c && decide (p (6 + 6 * c + i) = p (6 + 6 * c + j))) && (decide (md = 0) || (alF (rchP p) i j c && decide (rchP p c i = rchP p c j)))) := rfl
      have S : ∀ b : Nat, b = (if (alF (fun v k => p (6 + 6 * v + k)) i j (c + 1) && (decide (md = 0) || alF (rchP p) i j (c + 1))) = true then 1 else 0) → G X (Rm (d + 1)) mX12_isAlike 70 [(0, .ref y), (1, .int (nI i)), (2, .int (nI j)), (3, .int (nI md)), (5, .int (nI c))] [.int (nI b)] (sI μ f) 0 0 K := by
        intro b hb
        subst hb
        exact b_X12_isAlike_70 ih
      have no : (alF (fun v k => p (6 + 6 * v + k)) i j (c + 1) && (decide (md = 0) || alF (rchP p) i j (c + 1))) ≠ true → G X (Rm (d + 1)) mX12_isAlike 69 [(0, .ref y), (1, .int (nI i)), (2, .int (nI j)), (3, .int (nI md)), (5, .int (nI c))] [] (sI μ f) 0 0 K := fun q => b_X12_isAlike_69 (S 0 (by rw [if_neg q]))
      have yes : (alF (fun v k => p (6 + 6 * v + k)) i j (c + 1) && (decide (md = 0) || alF (rchP p) i j (c + 1))) = true → G X (Rm (d + 1)) mX12_isAlike 65 [(0, .ref y), (1, .int (nI i)), (2, .int (nI j)), (3, .int (nI md)), (5, .int (nI c))] [] (sI μ f) 0 0 K := fun q => b_X12_isAlike_65 (S 1 (by rw [if_pos q]))
      have on : ∀ {t : Bool}, ¬ nI (if t = true then 1 else 0) = 0 → t = true := fun {t} h => by
        cases t
        · exact absurd rfl h
        · rfl
      have off : ∀ {t : Bool}, nI (if t = true then 1 else 0) = 0 → t = false := fun {t} h => by
        cases t
        · rfl
        · exact absurd h (by decide)
      refine b_X12_isAlike_6 (hw12_r0 := hw) (hK := fun z => absurd z (ge_c (n := 3) hc (by decide))) (hz := fun z => absurd z (ge_c (n := 3) hc (by decide))) (h := fun _ z => no ?_) (hs := fun _ _ => by omega) (hs_2 := fun _ _ => by omega) (h_2 := fun _ z1 z2 => no ?_) (h_3 := fun _ z1 z2 z3 => yes ?_) (hb := fun _ _ _ _ => by omega) (hb_2 := fun _ _ _ _ => by omega) (h_4 := fun _ z1 z2 z3 z4 => no ?_) (h_5 := fun _ z1 z2 z3 z4 => yes ?_)
      · have z := off z
        rw [sv]
        intro q
        rw [Bool.and_eq_true_iff, Bool.and_eq_true_iff, Bool.or_eq_true_iff, Bool.and_eq_true_iff] at q
        rw [q.1.1, Bool.true_and] at z
        rcases q.2 with q2 | q2
        · rw [q2, Bool.true_or] at z; exact absurd z (by decide)
        · rw [q2.1, Bool.or_true] at z; exact absurd z (by decide)
      · rw [e1, e2, nI_eq (by omega) (by omega)] at z2
        rw [sv, decide_eq_false z2, Bool.and_false, Bool.false_and]; decide
      · have z1 := on z1
        rw [e1, e2, nI_eq (by omega) (by omega)] at z2
        rw [nI_z (by omega)] at z3
        rw [Bool.and_eq_true_iff] at z1
        rw [sv, decide_eq_true z2, z1.1, decide_eq_true z3]; rfl
      · rw [e3, e4, nI_eq (by omega) (by omega)] at z4
        have z3 : md ≠ 0 := fun q => z3 (by rw [q]; rfl)
        rw [sv, decide_eq_false z4, decide_eq_false z3, Bool.and_false, Bool.or_false, Bool.and_false]; decide
      · have z1 := on z1
        rw [e1, e2, nI_eq (by omega) (by omega)] at z2
        rw [e3, e4, nI_eq (by omega) (by omega)] at z4
        have z3 : md ≠ 0 := fun q => z3 (by rw [q]; rfl)
        rw [Bool.and_eq_true_iff, decide_eq_false z3, Bool.false_or] at z1
        rw [sv, decide_eq_true z2, z1.1, decide_eq_true z4, z1.2, decide_eq_false z3]; rfl
  have := H 0 (Nat.zero_le _)
  rw [if_pos (by show (true && (decide (md = 0) || true)) = true; rw [Bool.or_true]; rfl)] at this
  exact this
theorem m_grouped {md : Nat} (hw : WF12 μ y) (hg : Pg0 f y p) (hp : okP p) (hr : ∀ v k, v < 3 → k < p 60 → f (y + 11) (6 * v + k) = nI (rchP p v k)) (hmd : md ≤ 1) (hK : ∀ f', (∀ z, z ≠ y + 10 → ∀ j, f' z j = f z j) → (∀ j, j < p 60 → f' (y + 10) j = nI (gr p md j)) → K (some (.int (nI (gc p md (p 60))))) (sI μ f')) : Ct X (Rm (d + 2)) mX12_grouped [.ref y, .int (nI md)] (sI μ f) K := by
  have h6 := hp.1
  refine Ct_of rfl (Nat.le_of_ble_eq_true rfl) (b_X12_grouped_0 ?_)
  have pgg : ∀ g, (∀ z, z ≠ y + 10 → ∀ j, g z j = f z j) → Pg0 g y p := fun g h => hg.fr (fun k _ => h _ (by omega) k)
  have nd : ∀ g, (∀ z, z ≠ y + 10 → ∀ j, g z j = f z j) → e_X12_nodes (sI μ g) y = nI (p 60) := fun g h => pgg g h 60 (by decide)
  have H : ∀ i, i ≤ p 60 → ∀ g, (∀ z, z ≠ y + 10 → ∀ j, g z j = f z j) → (∀ j, j < i → g (y + 10) j = nI (gr p md j)) → G X (Rm (d + 2)) mX12_grouped 4 [(0, .ref y), (1, .int (nI md)), (2, .int (nI (gc p md i))), (3, .int (nI i))] [] (sI μ g) 0 0 K := by
    refine dn (p 60) ?_ ?_
    · intro g h1 h2
      refine b_X12_grouped_4 (hw12_r0 := hw) (hK := fun _ => hK g h1 h2) (hb := ?_) (h := ?_) <;> (intro c; rw [nd g h1] at c; exact absurd (le_r _) c)
    · intro i hi ih g h1 h2
      refine b_X12_grouped_4 (hw12_r0 := hw) (hK := fun c => absurd c (by rw [nd g h1]; exact ge_c hi (by omega))) (hb := fun _ => by omega) (h := fun _ => ?_)
      rw [wi_sI]
      -- behind the search
      have Z1 : ∀ g, (∀ z, z ≠ y + 10 → ∀ j, g z j = f z j) → (∀ j, j < i → g (y + 10) j = nI (gr p md j)) → fj p md i < i → g (y + 10) i = nI (gr p md (fj p md i)) → G X (Rm (d + 2)) mX12_grouped 75 [(0, .ref y), (1, .int (nI md)), (2, .int (nI (gc p md i))), (3, .int (nI i))] [] (sI μ g) 0 0 K := by
        intro g h1 h2 h3 h4
        have hl := gr_lt (p := p) (md := md) i _ h3
        have hcl := gc_le p md i
        have ne : ¬ iv (sI μ g) (y + 10) i = -4 := by rw [iv_sI, h4]; exact nI_ne4 (by omega)
        refine b_X12_grouped_75 (hw12_r0 := hw) (hb := by omega) (h := fun _ => b_X12_grouped_96 ?_) (hb_2 := fun _ => by omega) (h_2 := fun c => absurd c ne)
        rw [← gc_j h3]
        refine ih g h1 (fun j hj => ?_)
        by_cases q : j = i
        · subst q; rw [h4, gr_j h3]
        · exact h2 j (by omega)
      have Z2 : ∀ g, (∀ z, z ≠ y + 10 → ∀ j, g z j = f z j) → (∀ j, j < i → g (y + 10) j = nI (gr p md j)) → ¬ fj p md i < i → g (y + 10) i = -4 → G X (Rm (d + 2)) mX12_grouped 75 [(0, .ref y), (1, .int (nI md)), (2, .int (nI (gc p md i))), (3, .int (nI i))] [] (sI μ g) 0 0 K := by
        intro g h1 h2 h3 h4
        refine b_X12_grouped_75 (hw12_r0 := hw) (hb := by omega) (h := fun c => absurd h4 c) (hb_2 := fun _ => by omega) (h_2 := fun _ => b_X12_grouped_96 ?_)
        rw [wi_sI, ← gc_n h3]
        refine ih _ (fun z hz j => by rw [u2_x hz]; exact h1 z hz j) (fun j hj => ?_)
        by_cases q : j = i
        · subst q; rw [u2_s, gr_n h3]
        · rw [u2_k q]; exact h2 j (by omega)
      have L : ∀ j, j ≤ i → ∀ g, (∀ z, z ≠ y + 10 → ∀ j, g z j = f z j) → (∀ j, j < i → g (y + 10) j = nI (gr p md j)) → fa (alk p md i) j = j → g (y + 10) i = -4 → G X (Rm (d + 2)) mX12_grouped 23 [(0, .ref y), (1, .int (nI md)), (2, .int (nI (gc p md i))), (3, .int (nI i)), (4, .int (nI j))] [] (sI μ g) 0 0 K := by
        refine dn i ?_ ?_
        · intro g h1 h2 h3 h4
          refine b_X12_grouped_23 (hw12_r0 := hw) (h := fun _ => Z2 g h1 h2 (by unfold fj; omega) h4) (hb := ?_) (h_2 := ?_) (hc_isAlike := ?_) <;> (intro c; exact absurd (le_r _) c)
        · intro j hj ih2 g h1 h2 h3 h4
          refine b_X12_grouped_23 (hw12_r0 := hw) (h := fun c => absurd c (ge_c hj (by omega))) (hb := fun _ => by omega) (h_2 := fun _ c => absurd h4 c) (hc_isAlike := fun _ _ => ?_)
          refine m_isAlike hw (pgg g h1) hp (fun v k hv hk => by rw [h1 _ (by omega)]; exact hr v k hv hk) hi (by omega) hmd ?_
          refine b_X12_grouped_53 (hw12_r0 := hw) (h := fun c => ?_) (hb := fun _ => by omega) (h_2 := fun c => ?_)
          · have q : ¬ alk p md i j = true := fun q => by rw [if_pos q] at c; exact absurd c (by decide)
            refine b_X12_grouped_68 (n0 := 6) (j0 := i) (hk_q0 := w12_k20 hw) (hi_j0 := rfl) (hb := by omega) (h := ?_)
            rw [wi_sI]
            exact ih2 _ (fun z hz j => by rw [u2_x hz]; exact h1 z hz j) (fun k hk => by rw [u2_k (by omega)]; exact h2 k hk) (fa_step h3 q) (u2_s _ _ _ _)
          · have q : alk p md i j = true := Decidable.byContradiction fun q => by rw [if_neg q] at c; exact absurd rfl c
            have e : fj p md i = j := fa_hit h3 q hj
            have hl := gr_lt (p := p) (md := md) i j hj
            have hcl := gc_le p md i
            refine b_X12_grouped_68 (n0 := 6) (j0 := i) (hk_q0 := w12_k20 hw) (hi_j0 := rfl) (hb := by omega) (h := ?_)
            have e2 : iv (sI μ g) (y + 10) j = nI (gr p md j) := h2 j hj
            rw [e2, wi_sI]
            have e3 : u2 g (y + 10) i (nI (gr p md j)) (y + 10) i = nI (gr p md (fj p md i)) := by rw [u2_s, e]
            have e4 : ¬ iv (sI μ (u2 g (y + 10) i (nI (gr p md j)))) (y + 10) i = -4 := by rw [iv_sI, u2_s]; exact nI_ne4 (by omega)
            have zz := Z1 _ (fun z hz j => by rw [u2_x hz]; exact h1 z hz j) (fun k hk => by rw [u2_k (by omega)]; exact h2 k hk) (by omega) e3
            exact b_X12_grouped_23 (hw12_r0 := hw) (h := fun _ => zz) (hb := fun _ => by omega) (h_2 := fun _ _ => zz) (hc_isAlike := fun _ c => absurd c e4)
      exact L 0 (Nat.zero_le _) _ (fun z hz j => by rw [u2_x hz]; exact h1 z hz j) (fun k hk => by rw [u2_k (by omega)]; exact h2 k hk) rfl (u2_s _ _ _ _)
  exact H 0 (Nat.zero_le _) f (fun _ _ _ => rfl) (fun j hj => absurd hj (Nat.not_lt_zero _))
end P34
