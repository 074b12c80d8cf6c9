theorem upd1_id (q : Nat → Nat) (k : Nat) : upd1 q k (q k) = q := by
  funext i
  unfold upd1
  split
  · rename_i h; rw [h]
  · rfl
theorem us_id (σ : aS) (r : Nat) : us σ r (σ r) = σ := by
  funext i
  unfold us
  split
  · rename_i h; rw [h]
  · rfl
theorem rdL_s (σ : aS) (k L fr m i : Nat) (p : Nat → Nat) : rdL σ k L fr (m + 1) i p = if fdW σ k L (fr + 3 * i) 3 = 0 then (if deedA p (σ 9 (40 * k + (fr + 3 * i))) (σ 9 (40 * k + (fr + 3 * i + 1))) (σ 9 (40 * k + (fr + 3 * i + 2))) < 0 then (σ 0, -20 - nI i, σ 5 3) else rdL σ k L fr m (i + 1) (deedP p (σ 9 (40 * k + (fr + 3 * i))) (σ 9 (40 * k + (fr + 3 * i + 1))) (σ 9 (40 * k + (fr + 3 * i + 2))))) else (p, nI i, fdW σ k L (fr + 3 * i) 3) := rfl
theorem fdW_0 {σ : aS} {k L i w : Nat} (h : fdW σ k L i w = 0) : i + w ≤ σ 8 k := by
  unfold fdW at h
  by_cases q : σ 7 k < 3
  · rw [if_pos q] at h
    by_cases q2 : σ 7 k = L
    · rw [if_pos q2] at h
      by_cases q3 : i + w ≤ σ 8 k
      · exact q3
      · rw [if_neg q3] at h; omega
    · rw [if_neg q2] at h; omega
  · rw [if_neg q] at h; omega
section P50
variable {X : cX} {d : Nat} {μ : mM} {K : Option Value → mM → Prop} {f : Nat → Nat → Int32} {x t u y : Nat} {σ : aS}
theorem c_rdE {g : Nat → Nat → Int32} {p : Nat → Nat} {v : Int32} {e : Nat} (hW : WC μ x t u) (hC : CI f x t σ) (hO : OKs σ) (h1 : FrC f g x t) (h2 : Sh g (t + 1) p) (hK : ∀ g', Fr f g' x 260 → CI g' x t (N_rd σ (p, v, e)) → K (some (.int v)) (sI μ g')) : G X (Rm (d + 4)) mX11_read 173 [(0, .ref x), (6, .int v), (7, .int (nI e))] [] (sI μ g) 0 0 K := by
  refine b_X11_read_173 hW.w11 ?_
  rw [wi_sI]
  have r := hC.np hW hO h1 h2
  have r2 := CI.flt (n := e) r.2 hW.t2 hO.2.2.1.1
  exact hK (u2 g x 7 (nI e)) (fun z hz j => by rw [u2_x (by omega)]; exact r.1 z hz j) r2
theorem c_rdX {g : Nat → Nat → Int32} {p : Nat → Nat} {i3 i8 k : Nat} {l2 l4 v : Int32} {e : Nat} (hW : WC μ x t u) (hC : CI f x t σ) (hO : OKs σ) (hk : k < 4) (he : e ≠ 0) (he2 : e < 2 ^ 31) (h1 : FrC f g x t) (h2 : Sh g (t + 1) p) (hK : ∀ g', Fr f g' x 260 → CI g' x t (N_rd σ (p, v, e)) → K (some (.int v)) (sI μ g')) : G X (Rm (d + 4)) mX11_read 59 [(0, .ref x), (2, .int l2), (3, .int (nI i3)), (4, .int l4), (5, .ref (x + 252 + 2 * k)), (6, .int v), (7, .int (nI e)), (8, .int (nI i8))] [] (sI μ g) 0 0 K := by
  have ne : ¬ nI e = 0 := fun q => he ((nI_z he2).mp q)
  exact b_X11_read_59 (p0 := t) (h := fun _ => c_rdE hW hC hO h1 h2 hK) (h_2 := fun _ _ => c_rdE hW hC hO h1 h2 hK) (hw7_r5 := hW.w7 k hk) (h_3 := fun _ q => absurd q ne) (hw11_r0 := hW.w11) (hr_p0 := hW.rt) (hw10_p0 := hW.wt.1) (hb := fun _ q => absurd q ne) (hb_2 := fun _ q => absurd q ne) (hb_3 := fun _ q => absurd q ne) (hw1_r0147 := hW.w1) (hc_perform := fun _ q => absurd q ne)
theorem c_readL {k L fr n : Nat} (hW : WC μ x t u) (hC : CI f x t σ) (hO : OKs σ) (hk : k < 4) (hL : L < 3) (hfr : fr < 2 ^ 32) (hn : n ≤ 13) : ∀ (m i : Nat), i + m = n → (0 < i → fr + 3 * i ≤ 40) → ∀ (p : Nat → Nat) (g : Nat → Nat → Int32), FrC f g x t → Sh g (t + 1) p → okP p → Sh g (x + 123) (σ 0) → (∀ g', Fr f g' x 260 → CI g' x t (N_rd σ (rdL σ k L fr m i p)) → K (some (.int (rdL σ k L fr m i p).2.1)) (sI μ g')) → G X (Rm (d + 4)) mX11_read 59 [(0, .ref x), (2, .int (nI L)), (3, .int (nI fr)), (4, .int (nI n)), (5, .ref (x + 252 + 2 * k)), (6, .int (nI i)), (7, .int (nI 0)), (8, .int (nI i))] [] (sI μ g) 0 0 K := by
  have t2 := hW.t2
  have o := hO.2.2.2.2.1 k hk
  intro m
  induction m with
  | zero =>
    intro i hi hfi p g h1 h2 h3 h4 hK
    have e : i = n := by omega
    subst e
    exact b_X11_read_59 (p0 := t) (h := fun _ => c_rdE hW hC hO h1 h2 hK) (h_2 := fun q => absurd (le_r _) q) (hw7_r5 := hW.w7 k hk) (h_3 := fun q => absurd (le_r _) q) (hw11_r0 := hW.w11) (hr_p0 := hW.rt) (hw10_p0 := hW.wt.1) (hb := fun q => absurd (le_r _) q) (hb_2 := fun q => absurd (le_r _) q) (hb_3 := fun q => absurd (le_r _) q) (hw1_r0147 := hW.w1) (hc_perform := fun q => absurd (le_r _) q)
  | succ m ih =>
    intro i hi hfi p g h1 h2 h3 h4 hK
    have hs : SHT g (x + 252 + 2 * k) σ k := (hC.2.2.2.2.2 k hk).fr (fun z hz j => h1 z (by omega) (by omega) (by omega) j)
    have ix : nI fr + (3 : Int32) * nI i = nI (fr + 3 * i) := by rw [show (3 : Int32) = nI 3 from rfl, pk_mul, nI_add]
    have FT : e_X7_findTaken (sI μ g) (x + 252 + 2 * k) (nI L) (nI fr + (3 : Int32) * nI i) 3 = nI (fdW σ k L (fr + 3 * i) 3) := by
      rw [ix]
      exact ftE (w := 3) hs o.1 o.2 (by omega) (by decide) hL (fun _ => rfl)
    have fl := fdW_le σ k L (fr + 3 * i) 3
    have FZ : (nI (fdW σ k L (fr + 3 * i) 3) = 0) ↔ fdW σ k L (fr + 3 * i) 3 = 0 := nI_z (by omega)
    rw [rdL_s] at hK
    refine b_X11_read_59 (p0 := t) (h := fun q => absurd q (ge_c (by omega) (by omega))) (h_2 := fun _ q => absurd rfl q) (hw7_r5 := hW.w7 k hk) (h_3 := fun _ _ q => ?_) (hw11_r0 := hW.w11) (hr_p0 := hW.rt) (hw10_p0 := hW.wt.1) (hb := fun _ _ q => ?_) (hb_2 := fun _ _ q => ?_) (hb_3 := fun _ _ q => ?_) (hw1_r0147 := hW.w1) (hc_perform := fun _ _ q => ?_)
    · rw [FT] at q ⊢
      rw [FZ] at q
      rw [if_neg q] at hK
      exact b_X11_read_167 (c_rdX hW hC hO hk q (by omega) h1 h2 hK)
    · rw [FT, FZ] at q; have := fdW_0 q; omega
    · rw [FT, FZ] at q; have := fdW_0 q; omega
    · rw [FT, FZ] at q; have := fdW_0 q; omega
    · rw [FT] at q ⊢
      rw [FZ] at q
      have b := fdW_0 q
      rw [if_pos q] at hK
      have lt : ∀ j, j < 40 → σ 9 (40 * k + j) < 2 ^ 32 := fun j hj => hO.2.2.2.2.2 _ (by omega)
      rw [iv_sI, iv_sI, iv_sI, hs.2.2 _ (by omega), hs.2.2 _ (by omega), hs.2.2 _ (by omega), q]
      refine c_perform (p := p) hW.wt.2.1 hW.w1 (by omega) h2 h3 (lt _ (by omega)) (lt _ (by omega)) (lt _ (by omega)) (fun g1 r1 r2 => ?_)
      have fc : FrC f g1 x t := h1.tr (fun z a b c j => r1 z (by omega) (by omega) j)
      have h4b : Sh g1 (x + 123) (σ 0) := h4.fr (fun z z1 z2 j => r1 z (by omega) (by omega) j)
      refine b_X11_read_137 (p0 := t) (h := fun c => b_X11_read_167 (ih (i + 1) (by omega) (fun _ => by omega) _ g1 fc r2 (okP_deed h3) h4b ?_)) (hw11_r0 := hW.w11) (hr_p0 := hW.rt) (hw10_p0 := hW.wt.1) (hw5_p01 := hW.wt.2.1) (hc_copy := fun c => ?_)
      · rw [if_neg (Int32.not_lt.mpr c)] at hK
        exact hK
      · rw [if_pos (Int32.not_le.mp c)] at hK
        refine c_copy hW.wt.2.1 hW.wbf (by omega) h4b hO.1.2.1 (fun g2 s1 s2 => b_X11_read_158 ?_)
        have fc2 : FrC f g2 x t := fc.tr (FrC.shape s1)
        have r := hC.np hW hO fc2 s2
        have e1 : N_rd σ (σ 0, -20 - nI i, σ 5 3) = us σ 0 (σ 0) := by
          unfold N_rd
          show us (us σ 0 (σ 0)) 5 (upd1 (σ 5) 3 (σ 5 3)) = _
          rw [upd1_id, us_0, us_id]
        rw [e1] at hK
        exact hK g2 r.1 r.2
theorem C_read {k L fr n : Nat} (hW : WC μ x t u) (hC : CI f x t σ) (hO : OKs σ) (hk : k < 2 ^ 32) (hL : L < 2 ^ 32) (hfr : fr < 2 ^ 32) (hn : n < 2 ^ 32) (hK : ∀ f', Fr f f' x 260 → CI f' x t (N_read σ k L fr n) → K (some (.int (R_read σ k L fr n))) (sI μ f')) : Ct X (Rm (d + 4)) mX11_read [.ref x, .int (nI k), .int (nI L), .int (nI fr), .int (nI n)] (sI μ f) K := by
  have t2 := hW.t2
  have e1 := isSh (μ := sI μ f) hk
  have e2 := isLa (μ := sI μ f) hL
  have n0 := lt0 hn
  have lk : ¬ e_X11_isSheet (sI μ f) (nI k) = 0 → k < 4 := fun c => Decidable.byContradiction fun z => c (e1.mpr z)
  have lL : ¬ e_X11_isLane (sI μ f) (nI L) = 0 → L < 3 := fun c => Decidable.byContradiction fun z => c (e2.mpr z)
  have n13 : ∀ _ : ¬ nI n < 0, (nI n ≤ (13 : Int32)) ↔ n ≤ 13 := fun q => nI_leI (b := 13) (by rw [n0] at q; omega) (by decide)
  have BAD : ¬ (k < 4 ∧ L < 3 ∧ n ≤ 13) → K (some (.int (-1))) (sI μ f) := fun q => by
    have kk := hK f (Fr.rf _ _ _)
    unfold N_read R_read at kk
    rw [if_neg q, if_neg q] at kk
    exact kk hC
  refine Ct_of rfl (Nat.le_of_ble_eq_true rfl) (b_X11_read_0 (p0 := t) (hK := fun c => BAD (fun z => (e1.mp c) z.1)) (hK_2 := fun _ c => BAD (fun z => (e2.mp c) z.2.1)) (hK_3 := fun _ _ c => BAD (fun z => by rw [n0] at c; omega)) (hw11_r0 := hW.w11) (hb := fun c _ _ _ => lk c) (hr_p0 := hW.rt) (hw10_p0 := hW.wt.1) (hw5_r0123 := hW.wbf) (hc_copy := fun c1 c2 c3 c4 => ?_) (hK_4 := fun _ _ c3 c4 => BAD (fun z => c4 ((n13 c3).mpr z.2.2))))
  have z1 := lk c1
  have z2 := lL c2
  have z3 := (n13 c3).mp c4
  refine c_copy hW.wbf hW.wt.2.1 (by omega) hC.1 hO.1.2.1 (fun g r1 r2 => b_X11_read_50 ?_)
  have fc : FrC f g x t := fun z a b c j => r1 z (by omega) j
  refine c_readL hW hC hO z1 z2 hfr z3 n 0 (by omega) (fun q => absurd q (Nat.lt_irrefl _)) (σ 0) g fc (hC.1.fr (fun z a b j => r1 z (by omega) j)) hO.1 r2 (fun g' a b => ?_)
  have kk := hK g' a
  unfold N_read R_read at kk
  rw [if_pos ⟨z1, z2, z3⟩, if_pos ⟨z1, z2, z3⟩] at kk
  exact kk b
end P50
