def fdW (σ : aS) (k L i w : Nat) : Nat := if σ 7 k < 3 then (if σ 7 k = L then (if i + w ≤ σ 8 k then 0 else 2) else 3) else 1
def lcg (z : Int32) : Int32 := z * 1103515245 + 12345
def rGn (z : Int32) : Nat := z.toBitVec.toNat / 2 ^ 16 % 2 ^ 15
theorem rGn_lt (z : Int32) : rGn z < 2 ^ 15 := Nat.mod_lt _ (by decide)
def rnG (F : Int32 → Int32) (A : Int32 → (Nat → Nat) → Int32) (P : Int32 → (Nat → Nat) → Nat → Nat) : Nat → Int32 → (Nat → Nat) → (Nat → Nat) × Nat
  | 0, _, p => (p, 0)
  | k + 1, z, p => ((rnG F A P k (F z) (P (F z) p)).1, (if A (F z) p < 0 then 0 else 1) + (rnG F A P k (F z) (P (F z) p)).2)
theorem rnG_s (F : Int32 → Int32) (A : Int32 → (Nat → Nat) → Int32) (P : Int32 → (Nat → Nat) → Nat → Nat) (k : Nat) (z : Int32) (p : Nat → Nat) : rnG F A P (k + 1) z p = ((rnG F A P k (F z) (P (F z) p)).1, (if A (F z) p < 0 then 0 else 1) + (rnG F A P k (F z) (P (F z) p)).2) := rfl
theorem rnG_ok {F : Int32 → Int32} {A : Int32 → (Nat → Nat) → Int32} {P : Int32 → (Nat → Nat) → Nat → Nat} (h : ∀ z p, okP p → okP (P z p)) : ∀ (k : Nat) (z : Int32) (p : Nat → Nat), okP p → okP (rnG F A P k z p).1 := by
  intro k
  induction k with
  | zero => intro z p hp; exact hp
  | succ k ih => intro z p hp; rw [rnG_s]; exact ih _ _ (h _ _ hp)
def rA (z : Int32) (p : Nat → Nat) : Int32 := deedA p (rGn z % 6) (rGn z / 8 % 3) (rGn z / 32 % 3)
def rP (z : Int32) (p : Nat → Nat) : Nat → Nat := deedP p (rGn z % 6) (rGn z / 8 % 3) (rGn z / 32 % 3)
def rn : Nat → Int32 → (Nat → Nat) → (Nat → Nat) × Nat := rnG lcg rA rP
theorem rn_s (k : Nat) (z : Int32) (p : Nat → Nat) : rn (k + 1) z p = ((rn k (lcg z) (rP (lcg z) p)).1, (if rA (lcg z) p < 0 then 0 else 1) + (rn k (lcg z) (rP (lcg z) p)).2) := rnG_s lcg rA rP k z p
theorem rn_0 (z : Int32) (p : Nat → Nat) : rn 0 z p = (p, 0) := rfl
theorem rn_ok (k : Nat) (z : Int32) (p : Nat → Nat) (hp : okP p) : okP (rn k z p).1 := rnG_ok (fun _ _ h => okP_deed h) k z p hp
def R_run (σ : aS) (s n : Nat) : Int32 := if 1 ≤ n ∧ n ≤ 20 then nI (rn n (nI s) (σ 0)).2 else -1
def N_run (σ : aS) (s n : Nat) : aS := if 1 ≤ n ∧ n ≤ 20 then us σ 0 (rn n (nI s) (σ 0)).1 else σ
/-- reading m triples more from the i-th on: the page, the answer, the read's fault -/
def rdL (σ : aS) (k L fr : Nat) : Nat → Nat → (Nat → Nat) → (Nat → Nat) × Int32 × Nat
  | 0, i, p => (p, nI i, 0)
  | m + 1, i, p => if fdW σ k L (fr + 3 * i) 3 = 0 then (if deedA p (σ 9 (40 * k + (fr + 3 * i))) (σ 9 (40 * k + (fr + 3 * i + 1))) (σ 9 (40 * k + (fr + 3 * i + 2))) < 0 then (σ 0, -20 - nI i, σ 5 3) else rdL σ k L fr m (i + 1) (deedP p (σ 9 (40 * k + (fr + 3 * i))) (σ 9 (40 * k + (fr + 3 * i + 1))) (σ 9 (40 * k + (fr + 3 * i + 2))))) else (p, nI i, fdW σ k L (fr + 3 * i) 3)
def N_rd (σ : aS) (r : (Nat → Nat) × Int32 × Nat) : aS := us (us σ 0 r.1) 5 (upd1 (σ 5) 3 r.2.2)
def R_read (σ : aS) (k L fr n : Nat) : Int32 := if k < 4 ∧ L < 3 ∧ n ≤ 13 then (rdL σ k L fr n 0 (σ 0)).2.1 else -1
def N_read (σ : aS) (k L fr n : Nat) : aS := if k < 4 ∧ L < 3 ∧ n ≤ 13 then N_rd σ (rdL σ k L fr n 0 (σ 0)) else σ
theorem clsG (z : Int32) : ((z.toUInt32 >>> ((16 : Int32).toUInt32 &&& Int32.toUInt32 31)).toInt32) &&& 32767 = nI (rGn z) := by
  rw [pk_and _ 15 (by decide), pk_ushr z 16 16 (by decide)]
  rfl
theorem clsA {g : Nat} (h : g < 2 ^ 15) : (nI g - nI g / 6 * 6) = nI (g % 6) := ixrem (by omega)
theorem clsB {g : Nat} (h : g < 2 ^ 15) : (nI g / 8) - (nI g / 8) / 3 * 3 = nI (g / 8 % 3) := by
  rw [show (8 : Int32) = nI 8 from rfl, show (3 : Int32) = nI 3 from rfl, pk_div (by omega) (by decide) (by decide), pk_rem (by omega) (by decide) (by decide)]
theorem clsC {g : Nat} (h : g < 2 ^ 15) : (nI g / 32) - (nI g / 32) / 3 * 3 = nI (g / 32 % 3) := by
  rw [show (32 : Int32) = nI 32 from rfl, show (3 : Int32) = nI 3 from rfl, pk_div (by omega) (by decide) (by decide), pk_rem (by omega) (by decide) (by decide)]
section P49
variable {X : cX} {d : Nat} {μ : mM} {K : Option Value → mM → Prop} {f : Nat → Nat → Int32} {x t u y : Nat} {σ : aS}
theorem ftE {a k L i w : Nat} {l1 : Int32} (h : SHT f a σ k) (h7 : σ 7 k ≤ 3) (h8 : σ 8 k ≤ 40) (hi : i < 2 ^ 32) (hw : w ≤ 3) (hL : L < 3) (hl : σ 7 k < 3 → l1 = nI L) : e_X7_findTaken (sI μ f) a l1 (nI i) (nI w) = nI (fdW σ k L i w) := by
  unfold e_X7_findTaken fdW
  rw [iv_sI, iv_sI, iv_sI, h.1]
  by_cases q : σ 7 k < 3
  · rw [if_pos q, if_pos q, if_neg (by decide), (h.2.1 q).1, (h.2.1 q).2, hl q]
    by_cases q2 : σ 7 k = L
    · rw [if_pos q2, if_pos (by rw [q2])]
      by_cases q3 : nI i < 0
      · rw [if_pos q3]
        rw [lt0 hi] at q3
        rw [if_neg (by omega)]; rfl
      · rw [if_neg q3]
        rw [lt0 hi] at q3
        have e : (nI i ≤ nI (σ 8 k) - nI w) ↔ i + w ≤ σ 8 k := by
          rw [Int32.le_iff_toInt_le, pk_sub_toInt (by omega) (by omega), nI_toInt (by omega)]
          omega
        by_cases q4 : i + w ≤ σ 8 k
        · rw [if_pos q4, if_pos (e.mpr q4)]; rfl
        · rw [if_neg q4, if_neg (fun z => q4 (e.mp z))]; rfl
    · rw [if_neg q2, if_neg (fun z => q2 ((nI_eq (by omega) (by omega)).mp z))]; rfl
  · rw [if_neg q, if_neg q, if_pos (show nI 0 = 0 from rfl)]; rfl
theorem fdW_le (σ : aS) (k L i w : Nat) : fdW σ k L i w ≤ 3 := by
  unfold fdW
  repeat' split
  all_goals omega
theorem clamp40 {n : Nat} (h : n ≤ 40) : (if (0 : Int32) < (if (40 : Int32) < nI n then 40 else nI n) then (if (40 : Int32) < nI n then 40 else nI n) else 0) = nI n := by
  have e1 : ¬ (40 : Int32) < nI n := fun q => by have := (nI_ltI (a := 40) (by decide) (by omega)).mp q; omega
  rw [if_neg e1]
  have e2 : ((0 : Int32) < nI n) ↔ 0 < n := nI_ltI (a := 0) (by decide) (by omega)
  by_cases q : 0 < n
  · rw [if_pos (e2.mpr q)]
  · rw [if_neg (fun z => q (e2.mp z)), show n = 0 by omega]; rfl
theorem C_sheet {k L n : Nat} (hW : WC μ x t u) (hC : CI f x t σ) (hO : OKs σ) (hk : k < 2 ^ 32) (hL : L < 2 ^ 32) (hn : n < 2 ^ 32) (hK : ∀ f', Fr f f' x 260 → CI f' x t (N_sheet σ k L n) → K (some (.int (R_sheet k L n))) (sI μ f')) : Ct X (Rm (d + 2)) mX11_sheet [.ref x, .int (nI k), .int (nI L), .int (nI n)] (sI μ f) K := by
  have e1 := isSh (μ := sI μ f) hk
  have e2 := isLa (μ := sI μ f) hL
  have n0 := lt0 hn
  have lk : ¬ e_X11_isSheet (sI μ f) (nI k) = 0 → k < 4 := fun c => Decidable.byContradiction fun z => c (e1.mpr z)
  have lL : ¬ e_X11_isLane (sI μ f) (nI L) = 0 → L < 3 := fun c => Decidable.byContradiction fun z => c (e2.mpr z)
  have n40 : (nI n ≤ (40 : Int32)) ↔ (n ≤ 40 ∨ 2 ^ 31 ≤ n) := by
    by_cases q : 2 ^ 31 ≤ n
    · have q1 := n0.mpr q
      have : nI n ≤ (40 : Int32) := by
        rw [Int32.le_iff_toInt_le]
        rw [Int32.lt_iff_toInt_lt] at q1
        have e40 : (40 : Int32).toInt = 40 := by decide
        have e00 : (0 : Int32).toInt = 0 := by decide
        omega
      exact ⟨fun _ => Or.inr q, fun _ => this⟩
    · rw [show (40 : Int32) = nI 40 from rfl, nI_leI (by omega) (by decide)]
      omega
  have nn : 0 ≤ nI n ↔ ¬ 2 ^ 31 ≤ n := by rw [← n0, Int32.not_lt]
  have BAD : ¬ (k < 4 ∧ L < 3 ∧ n ≤ 40) → K (some (.int (R_sheet k L n))) (sI μ f) := fun q => by
    have kk := hK f (Fr.rf _ _ _)
    unfold N_sheet at kk
    rw [if_neg q] at kk
    exact kk hC
  have B1 : ¬ (k < 4 ∧ L < 3 ∧ (n ≤ 40 ∨ 2 ^ 31 ≤ n)) → K (some (.int (-1))) (sI μ f) := fun q => by
    have := BAD (fun z => q ⟨z.1, z.2.1, Or.inl z.2.2⟩)
    unfold R_sheet at this
    rw [if_neg q] at this
    exact this
  by_cases k4 : k < 4
  · refine Ct_of rfl (Nat.le_of_ble_eq_true rfl) (b_X11_sheet_0 (hK := fun c => B1 (fun z => (e1.mp c) z.1)) (hK_2 := fun _ c => B1 (fun z => (e2.mp c) z.2.1)) (hw11_r0 := hW.w11) (hb := fun c _ _ _ => lk c) (hw7_r02522i1 := hW.w7 k k4) (hc_renew := fun c1 c2 c3 c4 => ?_) (hK_3 := fun c1 c2 c3 c4 => ?_) (hK_4 := fun c1 c2 c3 => B1 (fun z => c3 (n40.mpr z.2.2))))
    · have z2 := lL c2
      rw [n40] at c3
      rw [nn] at c4
      have z3 : n ≤ 40 := by omega
      refine Ct_of rfl (Nat.le_of_ble_eq_true rfl) (b_X7_renew_0 (hw7_r0 := hW.w7 k k4) (hc_fill := ?_))
      rw [clamp40 z3, wi_sI, wi_sI, wi_sI]
      refine c_fill (n := 40) (w7_k3 (hW.w7 k k4)) (by decide) (b_X7_renew_32 (b_X11_sheet_40 ?_))
      have r1 : CI (flI (u2 (u2 (u2 f (x + 252 + 2 * k) 0 1) (x + 252 + 2 * k) 1 (nI L)) (x + 252 + 2 * k) 2 (nI n)) (x + 252 + 2 * k + 1) 40 0) x t (S_set σ k L n (fun i => if 40 * k ≤ i ∧ i < 40 * k + 40 then 0 else σ 9 i)) := by
        refine hC.sht hW.t2 hO.2.2.1.1 k4 (fun z a b j => by rw [flI_x (by omega), u2_x a, u2_x a, u2_x a]) (fun i hi => by unfold S_set; rw [us_n (by omega), us_n (by omega), us_n (by omega)]) ⟨?_, fun q => ⟨?_, ?_⟩, fun i hi => ?_⟩ (fun r hr hne => ⟨?_, ?_, fun i hi => ?_⟩)
        · rw [flI_x (by omega), u2_k (by omega), u2_k (by omega), u2_s]
          show (1 : Int32) = nI (if upd1 (σ 7) k L k < 3 then 1 else 0)
          rw [upd1_s, if_pos z2]; rfl
        · rw [flI_x (by omega), u2_k (by omega), u2_s]
          show nI L = nI (upd1 (σ 7) k L k)
          rw [upd1_s]
        · rw [flI_x (by omega), u2_s]
          show nI n = nI (upd1 (σ 8) k n k)
          rw [upd1_s]
        · rw [flI_s hi]
          show (0 : Int32) = nI (if 40 * k ≤ 40 * k + i ∧ 40 * k + i < 40 * k + 40 then 0 else σ 9 (40 * k + i))
          rw [if_pos (by omega)]; rfl
        · show upd1 (σ 7) k L r = _
          rw [upd1_n hne]
        · show upd1 (σ 8) k n r = _
          rw [upd1_n hne]
        · show (if 40 * k ≤ 40 * r + i ∧ 40 * r + i < 40 * k + 40 then 0 else σ 9 (40 * r + i)) = _
          rw [if_neg (by omega)]
      have kk := hK (flI (u2 (u2 (u2 f (x + 252 + 2 * k) 0 1) (x + 252 + 2 * k) 1 (nI L)) (x + 252 + 2 * k) 2 (nI n)) (x + 252 + 2 * k + 1) 40 0) (fun z hz j => by rw [flI_x (by omega), u2_x (by omega), u2_x (by omega), u2_x (by omega)])
      unfold N_sheet R_sheet at kk
      rw [if_pos ⟨k4, z2, z3⟩, if_pos ⟨k4, z2, Or.inl z3⟩, if_pos z3] at kk
      exact kk r1
    · have z2 := lL c2
      rw [n40] at c3
      rw [nn] at c4
      have := BAD (fun z => by omega)
      unfold R_sheet at this
      rw [if_pos ⟨k4, z2, c3⟩, if_neg (by omega)] at this
      exact this
  · have q1 := e1.mpr k4
    refine Ct_of rfl (Nat.le_of_ble_eq_true rfl) (b_X11_sheet_0c (hK := fun c => B1 (fun z => k4 z.1)) (hK_2 := fun c _ => absurd q1 c) (hw11_r0 := hW.w11) (hb := fun c _ _ _ => absurd q1 c) (hw7_r02522i1 := fun c _ _ _ => absurd q1 c) (hc_renew := fun c _ _ _ => absurd q1 c) (hK_3 := fun c _ _ _ => absurd q1 c) (hK_4 := fun c _ _ => absurd q1 c))
theorem C_lay {k i v : Nat} (hW : WC μ x t u) (hC : CI f x t σ) (hO : OKs σ) (hk : k < 2 ^ 32) (hi : i < 2 ^ 32) (hK : ∀ f', Fr f f' x 260 → CI f' x t (N_lay σ k i v) → K (some (.int (R_lay σ k i))) (sI μ f')) : Ct X (Rm (d + 2)) mX11_lay [.ref x, .int (nI k), .int (nI i), .int (nI v)] (sI μ f) K := by
  have e1 := isSh (μ := sI μ f) hk
  have lk : ¬ e_X11_isSheet (sI μ f) (nI k) = 0 → k < 4 := fun c => Decidable.byContradiction fun z => c (e1.mpr z)
  have BAD : ¬ (k < 4 ∧ σ 7 k < 3 ∧ i < σ 8 k) → K (some (.int (R_lay σ k i))) (sI μ f) := fun q => by
    have kk := hK f (Fr.rf _ _ _)
    unfold N_lay at kk
    rw [if_neg q] at kk
    exact kk hC
  have FT : k < 4 → e_X7_findTaken (sI μ f) (x + 252 + 2 * k) (iv (sI μ f) (x + 252 + 2 * k) 1) (nI i) 1 = nI (if σ 7 k < 3 then (if i < σ 8 k then 0 else 2) else 1) := fun a => by
    have hs := hC.2.2.2.2.2 k a
    have o := hO.2.2.2.2.1 k a
    by_cases q : σ 7 k < 3
    · have := ftE (μ := μ) (w := 1) (l1 := f (x + 252 + 2 * k) 1) hs o.1 o.2 hi (by decide) q (fun z => (hs.2.1 z).1)
      rw [show (1 : Int32) = nI 1 from rfl, iv_sI, this]
      unfold fdW
      rw [if_pos q, if_pos q, if_pos rfl]
      by_cases q2 : i < σ 8 k
      · rw [if_pos q2, if_pos (by omega)]
      · rw [if_neg q2, if_neg (by omega)]
    · have := ftE (μ := μ) (w := 1) (L := 0) (l1 := f (x + 252 + 2 * k) 1) hs o.1 o.2 hi (by decide) (by decide) (fun z => absurd z q)
      rw [show (1 : Int32) = nI 1 from rfl, iv_sI, this]
      unfold fdW
      rw [if_neg q, if_neg q]
  have FZ : k < 4 → e_X7_findTaken (sI μ f) (x + 252 + 2 * k) (iv (sI μ f) (x + 252 + 2 * k) 1) (nI i) 1 = 0 → σ 7 k < 3 ∧ i < σ 8 k := fun a c => by
    rw [FT a] at c
    by_cases q : σ 7 k < 3
    · by_cases q2 : i < σ 8 k
      · exact ⟨q, q2⟩
      · rw [if_pos q, if_neg q2] at c; exact absurd c (by decide)
    · rw [if_neg q] at c; exact absurd c (by decide)
  refine Ct_of rfl (Nat.le_of_ble_eq_true rfl) (b_X11_lay_0c (hw11_r0 := hW.w11) (hb := lk) (hw7_r02522i1 := fun c => hW.w7 k (lk c)) (hb_2 := fun c _ => lk c) (hw7_r02522i1_2 := fun c _ => hW.w7 k (lk c)) (hc_put := fun c1 c2 => ?_) (hK := fun c1 c2 => ?_) (hK_2 := fun c => ?_))
  · have a := lk c1
    obtain ⟨z1, z2⟩ := FZ a c2
    have hs := hC.2.2.2.2.2 k a
    have o := hO.2.2.2.2.1 k a
    have el : iv (sI μ f) (x + 252 + 2 * k) 1 = nI (σ 7 k) := (hs.2.1 z1).1
    have l0 : (nI (σ 7 k) = 0) ↔ σ 7 k = 0 := nI_z (by omega)
    have l1 : (nI (σ 7 k) = (1 : Int32)) ↔ σ 7 k = 1 := nI_eq (b := 1) (by omega) (by decide)
    have KK : ∀ w : Int32, w = narI (σ 7 k) (nI v) → K (some (.int 1)) (wi (sI μ f) (x + 252 + 2 * k + 1) i w) := fun w hw => by
      rw [wi_sI, hw, ← narN_I]
      have r1 : CI (u2 f (x + 252 + 2 * k + 1) i (nI (narN (σ 7 k) v))) x t (us σ 9 (upd1 (σ 9) (40 * k + i) (narN (σ 7 k) v))) := by
        refine hC.sht hW.t2 hO.2.2.1.1 a (fun z a b j => u2_x (by omega)) (fun i hi => us_n (by omega)) ⟨?_, fun q => ?_, fun j hj => ?_⟩ (fun r hr hne => ⟨rfl, rfl, fun j hj => ?_⟩)
        · rw [u2_x (by omega)]; exact hs.1
        · rw [u2_x (by omega), u2_x (by omega)]; exact hs.2.1 q
        · show _ = nI (upd1 (σ 9) (40 * k + i) (narN (σ 7 k) v) (40 * k + j))
          by_cases q : j = i
          · rw [q, u2_s, upd1_s]
          · rw [u2_k q, upd1_n (by omega)]; exact hs.2.2 j hj
        · show upd1 (σ 9) (40 * k + i) (narN (σ 7 k) v) (40 * r + j) = _
          rw [upd1_n (by omega)]
      have kk := hK (u2 f (x + 252 + 2 * k + 1) i (nI (narN (σ 7 k) v))) (fun z hz j => by rw [u2_x (by omega)])
      unfold N_lay R_lay at kk
      rw [if_pos ⟨a, z1, z2⟩, if_pos a, if_pos z1, if_pos z2] at kk
      exact kk r1
    refine Ct_of rfl (Nat.le_of_ble_eq_true rfl) (b_X7_put_0 (hw7_r0 := hW.w7 k a) (hb := fun _ _ _ => by omega) (hK := fun _ d1 d2 => ?_) (hb_2 := fun _ _ _ => by omega) (hK_2 := fun _ d1 d2 => ?_) (hb_3 := fun _ _ => by omega) (hK_3 := fun _ d1 => ?_) (hK_4 := fun d1 => absurd c2 d1))
    · rw [el, l0] at d1
      rw [el, l1] at d2
      refine b_X11_lay_53 (KK _ ?_)
      unfold narI
      rw [if_neg d1, if_neg d2]
    · rw [el, l0] at d1
      rw [el, l1] at d2
      refine b_X11_lay_53 (KK _ ?_)
      unfold narI
      rw [if_neg d1, if_pos d2]
    · rw [el, l0] at d1
      refine b_X11_lay_53 (KK _ ?_)
      unfold narI
      rw [if_pos d1]
  · have a := lk c1
    rw [FT a] at c2 ⊢
    have o := hO.2.2.2.2.1 k a
    by_cases q : σ 7 k < 3
    · rw [if_pos q] at c2 ⊢
      by_cases q2 : i < σ 8 k
      · rw [if_pos q2] at c2; exact absurd rfl c2
      · rw [if_neg q2]
        have := BAD (fun z => q2 z.2.2)
        unfold R_lay at this
        rw [if_pos a, if_pos q, if_neg q2] at this
        exact this
    · rw [if_neg q]
      have := BAD (fun z => q z.2.1)
      unfold R_lay at this
      rw [if_pos a, if_neg q] at this
      exact this
  · rw [e1] at c
    have := BAD (fun z => c z.1)
    unfold R_lay at this
    rw [if_neg c] at this
    exact this
theorem c_runL {n : Nat} (hW : WC μ x t u) (hn : n ≤ 20) : ∀ (m i : Nat), i + m = n → ∀ (z : Int32) (c : Nat) (p : Nat → Nat) (g : Nat → Nat → Int32), FrC f g x t → Sh g (t + 1) p → okP p → (∀ g', FrC f g' x t → Sh g' (t + 1) (rn m z p).1 → K (some (.int (nI (c + (rn m z p).2)))) (sI μ g')) → G X (Rm (d + 4)) mX11_run 21 [(0, .ref x), (2, .int (nI n)), (3, .int (nI c)), (4, .int z), (5, .int (nI i))] [] (sI μ g) 0 0 K := by
  have t2 := hW.t2
  intro m
  induction m with
  | zero =>
    intro i hi z c p g h1 h2 h3 h4
    have e : i = n := by omega
    subst e
    rw [rn_0] at h4
    exact b_X11_run_21 (p0 := t) (hK := fun _ => h4 g h1 h2) (hw11_r0 := hW.w11) (hr_p0 := hW.rt) (hw10_p0 := hW.wt.1) (hw1_r0147 := hW.w1) (hc_perform := fun q => absurd (le_r _) q)
  | succ m ih =>
    intro i hi z c p g h1 h2 h3 h4
    rw [rn_s] at h4
    refine b_X11_run_21 (p0 := t) (hK := fun q => absurd q (ge_c (by omega) (by omega))) (hw11_r0 := hW.w11) (hr_p0 := hW.rt) (hw10_p0 := hW.wt.1) (hw1_r0147 := hW.w1) (hc_perform := fun _ => ?_)
    rw [show z * 1103515245 + 12345 = lcg z from rfl, clsG]
    generalize lcg z = y at h4 ⊢
    have gl := rGn_lt y
    rw [clsA gl, clsB gl, clsC gl]
    refine c_perform (p := p) hW.wt.2.1 hW.w1 (by omega) h2 h3 (by omega) (by omega) (by omega) (fun g1 r1 r2 => ?_)
    have fc : FrC f g1 x t := h1.tr (fun z a b c j => r1 z (by omega) (by omega) j)
    have r2 : Sh g1 (t + 1) (rP y p) := r2
    have o2 : okP (rP y p) := okP_deed h3
    show G X (Rm (d + 4)) mX11_run 82 _ [.int (rA y p)] _ 0 0 K
    generalize rA y p = A at h4 ⊢
    generalize rP y p = P at h4 r2 o2
    refine b_X11_run_82 (h := fun q => b_X11_run_92 (ih (i + 1) (by omega) y c P g1 fc r2 o2 (fun g' a b => ?_))) (h_2 := fun q => b_X11_run_92 (ih (i + 1) (by omega) y (c + 1) P g1 fc r2 o2 (fun g' a b => ?_)))
    · have k := h4 g' a b
      rw [if_pos q, Nat.zero_add] at k
      exact k
    · have k := h4 g' a b
      rw [if_neg q, ← Nat.add_assoc] at k
      exact k
theorem C_run {s n : Nat} (hW : WC μ x t u) (hC : CI f x t σ) (hO : OKs σ) (hn : n < 2 ^ 32) (hK : ∀ f', Fr f f' x 260 → CI f' x t (N_run σ s n) → K (some (.int (R_run σ s n))) (sI μ f')) : Ct X (Rm (d + 4)) mX11_run [.ref x, .int (nI s), .int (nI n)] (sI μ f) K := by
  have BAD : ¬ (1 ≤ n ∧ n ≤ 20) → K (some (.int (-1))) (sI μ f) := fun q => by
    have kk := hK f (Fr.rf _ _ _)
    unfold N_run R_run at kk
    rw [if_neg q, if_neg q] at kk
    exact kk hC
  have n0 := lt0 hn
  have l1 : (nI n < (1 : Int32)) ↔ ¬ (1 ≤ n ∧ n < 2 ^ 31) := by
    by_cases q : 2 ^ 31 ≤ n
    · have q1 := n0.mpr q
      have : nI n < (1 : Int32) := by
        rw [Int32.lt_iff_toInt_lt] at q1 ⊢
        have e40 : (1 : Int32).toInt = 1 := by decide
        have e00 : (0 : Int32).toInt = 0 := by decide
        omega
      exact ⟨fun _ => by omega, fun _ => this⟩
    · rw [show (1 : Int32) = nI 1 from rfl, nI_ltI (by omega) (by decide)]
      omega
  refine Ct_of rfl (Nat.le_of_ble_eq_true rfl) (b_X11_run_0 (hK := fun q => BAD (by rw [l1] at q; omega)) (h := fun q1 q2 => ?_) (hK_2 := fun q1 q2 => BAD (fun z => q2 (nI_le (b := 20) z.2 (by decide)))))
  rw [l1] at q1
  have z : n ≤ 20 := (nI_leI (b := 20) (by omega) (by decide)).mp q2
  have z1 : 1 ≤ n := by omega
  refine c_runL hW z n 0 (by omega) (nI s) 0 (σ 0) f (FrC.rf _ _ _) hC.1 hO.1 (fun g a b => ?_)
  have r := hC.np hW hO a b
  have kk := hK g r.1
  unfold N_run R_run at kk
  rw [if_pos ⟨z1, z⟩, if_pos ⟨z1, z⟩] at kk
  rw [Nat.zero_add]
  exact kk r.2
theorem c_kept (hW : WC μ x t u) (hC : CI f x t σ) (hO : OKs σ) (hK : K (some (.int (nI (σ 3 0 + σ 3 1)))) (sI μ f)) : Ct X (Rm d) mX11_imagesKept [.ref x] (sI μ f) K := by
  have o0 := (hO.2.1 0 (by decide)).2
  have o1 := (hO.2.1 1 (by decide)).2
  have e0 : iv (sI μ f) (x + 121) 0 = nI (σ 3 0) := (hC.2.1 0 (by decide)).2
  have e1 : iv (sI μ f) (x + 121) 1 = nI (σ 3 1) := (hC.2.1 1 (by decide)).2
  have z0 : (nI (σ 3 0) = 0) ↔ σ 3 0 = 0 := nI_z (by omega)
  have z1 : (nI (σ 3 1) = 0) ↔ σ 3 1 = 0 := nI_z (by omega)
  have E : ∀ c, c = σ 3 0 + σ 3 1 → G X (Rm d) mX11_imagesKept 4 [(0, .ref x), (1, .int (nI c)), (2, .int (nI 2))] [] (sI μ f) 0 0 K := fun c hc => by
    rw [hc]
    exact b_X11_imagesKept_4 (hK := fun _ => hK) (hw11_r0 := hW.w11) (hb := fun q => absurd (le_r _) q) (h := fun q => absurd (le_r _) q) (h_2 := fun q => absurd (le_r _) q)
  have B : ∀ c, c = σ 3 0 → G X (Rm d) mX11_imagesKept 4 [(0, .ref x), (1, .int (nI c)), (2, .int (nI 1))] [] (sI μ f) 0 0 K := fun c hc =>
    b_X11_imagesKept_4 (hK := fun q => absurd q (ge_c (n := 2) (by decide) (by decide))) (hw11_r0 := hW.w11) (hb := fun _ => by decide) (h := fun _ q => b_X11_imagesKept_21 (E c (by rw [e1, z1] at q; omega))) (h_2 := fun _ q => b_X11_imagesKept_21 (E (c + 1) (by rw [e1, z1] at q; omega)))
  exact Ct_of rfl (Nat.le_of_ble_eq_true rfl) (b_X11_imagesKept_0 (b_X11_imagesKept_4 (hK := fun q => absurd q (ge_c (n := 2) (by decide) (by decide))) (hw11_r0 := hW.w11) (hb := fun _ => by decide) (h := fun _ q => b_X11_imagesKept_21 (B 0 (by rw [e0, z0] at q; omega))) (h_2 := fun _ q => b_X11_imagesKept_21 (B (0 + 1) (by rw [e0, z0] at q; omega)))))
theorem c_itemsAll (hW : WC μ x t u) (hC : CI f x t σ) (hO : OKs σ) (hK : K (some (.int (nI (smI2 (σ 4) (σ 5 0))))) (sI μ f)) : Ct X (Rm d) mX10_itemsOfAll [.ref t] (sI μ f) K := by
  have h4 := hO.2.2.1.1
  have em : iv (sI μ f) t 2 = nI (σ 5 0) := hC.2.2.1.1
  refine Ct_of rfl (Nat.le_of_ble_eq_true rfl) (b_X10_itemsOfAll_0 ?_)
  have H : ∀ i, i ≤ σ 5 0 → G X (Rm d) mX10_itemsOfAll 4 [(0, .ref t), (1, .int (nI (smI2 (σ 4) i))), (2, .int (nI i))] [] (sI μ f) 0 0 K := by
    refine dn (σ 5 0) ?_ ?_
    · refine b_X10_itemsOfAll_4c (hw10_r0 := hW.wt.1) (hK := fun _ => hK) (hb := ?_) (hw3_r0268i2 := ?_) (h := ?_) <;> (intro q; rw [em] at q; exact absurd (le_r _) q)
    · intro i hi ih
      refine b_X10_itemsOfAll_4c (hw10_r0 := hW.wt.1) (hK := fun q => absurd q (by rw [em]; exact ge_c hi (by omega))) (hb := fun _ => by omega) (hw3_r0268i2 := fun _ => hW.wt.2.2 i (by omega)) (h := fun _ => ?_)
      have e3 : iv (sI μ f) (t + 26 + 8 * i) 3 = nI (σ 4 (48 * i + 2)) := (hC.2.2.1.2 i hi).2.1
      rw [e3, nI_add]
      exact ih
  exact H 0 (Nat.zero_le _)
theorem R_count_d {w : Nat} (h : 3 < w) : R_count σ w = -1 := by
  unfold R_count
  rw [if_neg (by omega), if_neg (by omega), if_neg (by omega), if_neg (by omega)]
theorem C_count {w : Nat} (hW : WC μ x t u) (hC : CI f x t σ) (hO : OKs σ) (hw : w < 2 ^ 32) (hK : K (some (.int (R_count σ w))) (sI μ f)) : Ct X (Rm (d + 1)) mX11_count [.ref x, .int (nI w)] (sI μ f) K := by
  have hs := hC.2.2.2.2.2 0 (by decide)
  refine Ct_of rfl (Nat.le_of_ble_eq_true rfl) (b_X11_count_0 (p0 := t) (hw11_r0 := hW.w11) (hc_imagesKept := fun q => ?_) (hw9_r01 := hW.w9) (hK := fun q => ?_) (hw7_r025220 := hW.w7 0 (by decide)) (hK_2 := fun q q2 => ?_) (hK_3 := fun q q2 => ?_) (hr_p0 := hW.rt) (hw10_p0 := hW.wt.1) (hc_itemsOfAll := fun q => ?_) (hK_4 := fun q => ?_))
  · have e := eqU (n := 0) hw (by decide) q
    subst e
    exact c_kept hW hC hO (b_X11_count_36 hK)
  · have e := eqU (n := 1) hw (by decide) q
    subst e
    rw [iv_sI, hC.2.2.2.1.1]; exact hK
  · have e := eqU (n := 2) hw (by decide) q
    subst e
    rw [iv_sI, hs.1] at q2
    have z : ¬ σ 7 0 < 3 := fun z => by rw [if_pos z] at q2; exact absurd q2 (by decide)
    have hK : K (some (.int (if σ 7 0 < 3 then nI (σ 8 0) else -4))) (sI μ f) := hK
    rw [if_neg z] at hK; exact hK
  · have e := eqU (n := 2) hw (by decide) q
    subst e
    rw [iv_sI, hs.1] at q2
    have z : σ 7 0 < 3 := Decidable.byContradiction fun z => by rw [if_neg z] at q2; exact absurd rfl q2
    have hK : K (some (.int (if σ 7 0 < 3 then nI (σ 8 0) else -4))) (sI μ f) := hK
    rw [if_pos z] at hK
    rw [iv_sI, (hs.2.1 z).2]; exact hK
  · have e := eqU (n := 3) hw (by decide) q
    subst e
    exact c_itemsAll hW hC hO (b_X11_count_79 hK)
  · have e := dfl (n := 3) hw q
    rw [R_count_d (by omega)] at hK
    exact hK
end P49
