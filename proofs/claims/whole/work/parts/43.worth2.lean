section P43
variable {X : cX} {d : Nat} {μ : mM} {f : Nat → Nat → Int32} {a s y : Nat} {p F : Nat → Nat} {o : Nat}
theorem bitF_le (F : Nat → Nat) (o q : Nat) : bitF F o q ≤ 1 := by unfold bitF; omega
theorem c_worthFrom (hwa : WF3 μ a) (hws : WF5 μ s) (has : a + 8 ≤ s ∨ s + 24 ≤ a) (hp : okP p) (hF : okF F o) : ∀ r q, q + r = F o → ∀ (st : Nat → Nat) (f : Nat → Nat → Int32) (K : Option Value → mM → Prop), Sh f s p → (∀ v j, v < 3 → j < p 60 → f (s + 21 + v) j = nI (rchP p v j)) → CFm f a F o → (∀ k, k < q → f (a + 6) k = nI (st k) ∧ st k < p 60) → (∀ f', (∀ z, z ≠ a + 6 → z ≠ a + 7 → ∀ j, f' z j = f z j) → (∀ k, k < q → f' (a + 6) k = f (a + 6) k) → K (some (.int (nI (wrt p F o r q st)))) (sI μ f')) → Ct X (Rm (d + r + 3)) mX3_worthFrom [.ref a, .ref s, .int (nI q)] (sI μ f) K := by
  have h6 := hp.1
  have hL := hF.1
  intro r
  induction r with
  | zero =>
    intro q hq st f K hs hr hc hst hK
    have e0 : iv (sI μ f) a 0 = nI (F o) := hc.1
    have T : G X (Rm (d + 0 + 3)) mX3_worthFrom 13 [(0, .ref a), (1, .ref s)] [] (sI μ f) 0 0 K := by
      refine b_X3_worthFrom_13 hwa (c_items (st := st) hwa hws has hs hp hr hF hc (fun k hk => hst k (by omega)) (fun f' h1 => b_X3_worthFrom_18 (hK f' (fun z _ h2 j => h1 z h2 j) (fun k _ => h1 _ (by omega) k))))
    refine Ct_of rfl (Nat.le_of_ble_eq_true rfl) (b_X3_worthFrom_0 (hw3_r0 := hwa) (h := fun _ => T) (hb := ?_) (h_2 := ?_) (h_3 := ?_) (h_4 := ?_)) <;> (intro z; rw [e0, show q = F o by omega] at z; exact absurd (le_r _) z)
  | succ r ihr =>
    intro q hq st f K hs hr hc hst hK
    have e0 : iv (sI μ f) a 0 = nI (F o) := hc.1
    have bl := bitF_le F o q
    have eb : iv (sI μ f) (a + 2) q = nI (bitF F o q) := hc.2.2.2.1 q (by omega)
    have wl : ∀ i, i < p 60 → wrt p F o r (q + 1) (upd1 st q i) ≤ 2 := fun i hi => wrt_le hp hF r (q + 1) _ (by omega) (fun k hk => by
      by_cases e : k = q
      · subst e; rw [upd1_s]; exact hi
      · rw [upd1_n e]; exact (hst k (by omega)).2)
    have sg : ∀ g, (∀ z, z ≠ a + 6 → z ≠ a + 7 → ∀ j, g z j = f z j) → Sh g s p := fun g h => hs.fr (fun z h1 h2 j => h z (by omega) (by omega) j)
    have cg : ∀ g, (∀ z, z ≠ a + 6 → z ≠ a + 7 → ∀ j, g z j = f z j) → CFm g a F o := fun g h => hc.fr (fun z h1 h2 j => h z (by omega) (by omega) j)
    have rg : ∀ g : Nat → Nat → Int32, (∀ z, z ≠ a + 6 → z ≠ a + 7 → ∀ j, g z j = f z j) → ∀ v j, v < 3 → j < p 60 → g (s + 21 + v) j = nI (rchP p v j) := fun g h v j hv hj => by rw [h _ (by omega) (by omega)]; exact hr v j hv hj
    -- the nodes, with what is settled
    have L : ∀ t, t = (if bitF F o q = 1 then 0 else 2) → ∀ i, i ≤ p 60 → ∀ w, w = (if bitF F o q = 1 then mno (fun i => wrt p F o r (q + 1) (upd1 st q i)) i else mxo (fun i => wrt p F o r (q + 1) (upd1 st q i)) i) → ∀ g, (∀ z, z ≠ a + 6 → z ≠ a + 7 → ∀ j, g z j = f z j) → (∀ k, k < q → g (a + 6) k = f (a + 6) k) → G X (Rm (d + (r + 1) + 3)) mX3_worthFrom 42 [(0, .ref a), (1, .ref s), (2, .int (nI q)), (3, .int (nI t)), (4, .int (nI w)), (5, .int (nI i))] [] (sI μ g) 0 0 K := by
      intro t ht
      refine dn (p 60) ?_ ?_
      · intro w hw g q1 q2
        have e1 : iv (sI μ g) s 0 = nI (p 60) := (sg g q1).1
        have fin : K (some (.int (nI w))) (sI μ g) := by
          rw [hw]; exact hK g q1 q2
        refine b_X3_worthFrom_42 (hw5_r1 := hws) (hK := fun _ => fin) (hK_2 := fun _ _ => fin) (hw3_r0 := hwa) (hb := ?_) (hc_worthFrom := ?_) <;> (intro z; rw [e1] at z; exact absurd (le_r _) z)
      · intro i hi ih w hw g q1 q2
        have e1 : iv (sI μ g) s 0 = nI (p 60) := (sg g q1).1
        have t2 : t ≤ 2 := by rw [ht]; split <;> omega
        have w2 : w ≤ 2 := by
          rw [hw]
          split
          · exact mno_le _ _
          · exact mxo_le (fun j hj => wl j (by omega))
        have wt : (nI w = nI t) ↔ w = t := nI_eq (by omega) (by omega)
        refine b_X3_worthFrom_42 (hw5_r1 := hws) (hK := fun z => absurd z (by rw [e1]; exact ge_c hi (by omega))) (hK_2 := fun _ z => ?_) (hw3_r0 := hwa) (hb := fun _ _ => by omega) (hc_worthFrom := fun _ _ => ?_)
        · -- settled: more nodes change nothing
          rw [wt] at z
          have fin := hK g q1 q2
          have e9 : wrt p F o (r + 1) q st = w := by
            unfold wrt
            by_cases hb : bitF F o q = 1
            · rw [if_pos hb]
              rw [if_pos hb] at hw ht
              have := mno_0 (g := fun i => wrt p F o r (q + 1) (upd1 st q i)) (n := i) (by omega) (p 60 - i)
              rw [show i + (p 60 - i) = p 60 by omega] at this
              omega
            · rw [if_neg hb]
              rw [if_neg hb] at hw ht
              have := mxo_2 (g := fun i => wrt p F o r (q + 1) (upd1 st q i)) (n := i) (by omega) (p 60 - i) (fun j hj => wl j (by omega))
              rw [show i + (p 60 - i) = p 60 by omega] at this
              omega
          rw [e9] at fin
          exact fin
        · rw [wi_sI, nI_1]
          have q1' : ∀ z, z ≠ a + 6 → z ≠ a + 7 → ∀ j, (u2 g (a + 6) q (nI i)) z j = f z j := fun z h1 h2 j => by rw [u2_x h1]; exact q1 z h1 h2 j
          refine ihr (q + 1) (by omega) (upd1 st q i) _ _ (sg _ q1') (rg _ q1') (cg _ q1') (fun k hk => ?_) (fun f2 r1 r2 => ?_)
          · by_cases e : k = q
            · subst e; rw [u2_s, upd1_s]; exact ⟨rfl, hi⟩
            · rw [u2_k e, upd1_n e, q2 k (by omega)]; exact hst k (by omega)
          · have q1'' : ∀ z, z ≠ a + 6 → z ≠ a + 7 → ∀ j, f2 z j = f z j := fun z h1 h2 j => (r1 z h1 h2 j).trans (q1' z h1 h2 j)
            have q2'' : ∀ k, k < q → f2 (a + 6) k = f (a + 6) k := fun k hk => by rw [r2 k (by omega), u2_k (by omega)]; exact q2 k hk
            have eb2 : iv (sI μ f2) (a + 2) q = nI (bitF F o q) := (cg f2 q1'').2.2.2.1 q (by omega)
            have wi2 := wl i hi
            refine b_X3_worthFrom_73 (hw3_r0 := hwa) (hb := by omega) (h := fun z => b_X3_worthFrom_101 ?_) (h_2 := fun z => b_X3_worthFrom_101 ?_)
            · rw [eb2, nI_z (by omega)] at z
              rw [mxI (by omega) (by omega)]
              refine ih _ ?_ f2 q1'' q2''
              rw [if_neg (by omega)] at hw
              rw [if_neg (by omega), hw]
              rfl
            · rw [eb2, nI_z (by omega)] at z
              rw [mnI (by omega) (by omega)]
              refine ih _ ?_ f2 q1'' q2''
              rw [if_pos (by omega)] at hw
              rw [if_pos (by omega), hw]
              rfl
    have N1 : ¬ iv (sI μ f) a 0 ≤ nI q := by rw [e0]; exact ge_c (by omega) (by omega)
    have N2 : nI q < (3 : Int32) := nI_lt (b := 3) (by omega) (by decide)
    refine Ct_of rfl (Nat.le_of_ble_eq_true rfl) (b_X3_worthFrom_0 (hw3_r0 := hwa) (h := fun z => absurd z N1) (hb := fun _ _ => by omega) (h_2 := fun _ _ z => b_X3_worthFrom_33 ?_) (h_3 := fun _ _ z => b_X3_worthFrom_33 ?_) (h_4 := fun _ z => absurd N2 z))
    · rw [eb, nI_z (by omega)] at z
      exact L 2 (by rw [if_neg (by omega)]) 0 (Nat.zero_le _) 0 (by rw [if_neg (by omega)]; rfl) f (fun _ _ _ _ => rfl) (fun _ _ => rfl)
    · rw [eb, nI_z (by omega)] at z
      exact L 0 (by rw [if_pos (by omega)]) 0 (Nat.zero_le _) 2 (by rw [if_pos (by omega)]; rfl) f (fun _ _ _ _ => rfl) (fun _ _ => rfl)
theorem c_worth {K : Option Value → mM → Prop} (hwa : WF3 μ a) (hws : WF5 μ s) (has : a + 8 ≤ s ∨ s + 24 ≤ a) (hp : okP p) (hF : okF F o) (hs : Sh f s p) (hr : ∀ v j, v < 3 → j < p 60 → f (s + 21 + v) j = nI (rchP p v j)) (hc : CFm f a F o) (hK : ∀ f', (∀ z, z ≠ a + 6 → z ≠ a + 7 → ∀ j, f' z j = f z j) → K (some (.int (nI (wrt p F o (F o) 0 p)))) (sI μ f')) : Ct X (Rm (d + 7)) mX3_worth [.ref a, .ref s] (sI μ f) K := by
  have hL := hF.1
  refine Ct_of rfl (Nat.le_of_ble_eq_true rfl) (b_X3_worth_0 hwa ?_)
  have call := c_worthFrom (X := X) (d := d + (3 - F o)) (μ := μ) (a := a) (s := s) hwa hws has hp hF (F o) 0 (by omega) p f (fun r μ2 => G X (Rm (d + 7)) mX3_worth 6 [] (r.toList ++ []) μ2 0 0 K) hs hr hc (fun k hk => absurd hk (Nat.not_lt_zero _)) (fun f' h1 _ => b_X3_worth_6 (hK f' h1))
  rw [show d + (3 - F o) + F o + 3 = d + 6 by omega] at call
  exact call
end P43
