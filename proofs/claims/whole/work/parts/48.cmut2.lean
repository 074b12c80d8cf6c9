def T_set (σ : aS) (n : Nat) (T : Nat → Nat) : aS := us (us σ 5 (upd1 (σ 5) 1 n)) 6 T
def R_feed (σ : aS) (c : Nat) : Int32 := if c ≤ 127 then (if σ 5 1 < 320 then nI (σ 5 1 + 1) else -3) else -1
def N_feed (σ : aS) (c : Nat) : aS := if c ≤ 127 ∧ σ 5 1 < 320 then T_set σ (σ 5 1 + 1) (upd1 (σ 6) (σ 5 1) c) else σ
def R_end (σ : aS) (n : Nat) : Int32 := if n ≤ σ 5 1 then nI (σ 5 1) else -1
def N_end (σ : aS) (n : Nat) : aS := if n ≤ σ 5 1 then T_set σ n (σ 6) else σ
def I_set (σ : aS) (k : Nat) (q : Nat → Nat) : aS := us (us σ (1 + k) q) 3 (upd1 (σ 3) k 1)
def R_keep (σ : aS) (k : Nat) : Int32 := if k < 2 then nI (σ 3 k) else -1
def N_keep (σ : aS) (k : Nat) : aS := if k < 2 then I_set σ k (σ 0) else σ
def R_back (σ : aS) (k : Nat) : Int32 := if k < 2 then (if σ 3 k = 0 then -2 else nI (σ (1 + k) 60)) else -1
def N_back (σ : aS) (k : Nat) : aS := if k < 2 ∧ σ 3 k ≠ 0 then us σ 0 (σ (1 + k)) else σ
noncomputable def cvB (W O : Nat → Nat) : Nat := @ite _ (ext W O 0 W) (Classical.propDecidable _) 1 0
theorem cvB_eq {W O : Nat → Nat} {r : Nat} (h : r ≤ 1) (h2 : r = 1 ↔ ext W O 0 W) : r = cvB W O := by
  unfold cvB
  by_cases q : ext W O 0 W
  · rw [if_pos q]; exact h2.mpr q
  · rw [if_neg q]
    have : ¬ r = 1 := fun z => q (h2.mp z)
    omega
noncomputable def R_covers (σ : aS) (k w : Nat) : Int32 := if k < 2 ∧ w ≤ 1 then (if σ 3 k = 0 then -2 else nI (if w = 0 then cvB (σ 0) (σ (1 + k)) else cvB (σ (1 + k)) (σ 0))) else -1
def S_set (σ : aS) (k lane n : Nat) (g : Nat → Nat) : aS := us (us (us σ 7 (upd1 (σ 7) k lane)) 8 (upd1 (σ 8) k n)) 9 g
def R_sheet (k lane n : Nat) : Int32 := if k < 4 ∧ lane < 3 ∧ (n ≤ 40 ∨ 2 ^ 31 ≤ n) then (if n ≤ 40 then 1 else -14) else -1
def N_sheet (σ : aS) (k lane n : Nat) : aS := if k < 4 ∧ lane < 3 ∧ n ≤ 40 then S_set σ k lane n (fun i => if 40 * k ≤ i ∧ i < 40 * k + 40 then 0 else σ 9 i) else σ
def narI (lane : Nat) (v : Int32) : Int32 := if lane = 0 then v.toInt8.toInt32 else if lane = 1 then v.toInt16.toInt32 else v
def narN (lane v : Nat) : Nat := (narI lane (nI v)).toBitVec.toNat
theorem nI_bv (z : Int32) : nI z.toBitVec.toNat = z := by
  apply Int32.toBitVec_inj.mp
  show BitVec.ofNat 32 z.toBitVec.toNat = z.toBitVec
  simp
theorem narN_I (lane v : Nat) : nI (narN lane v) = narI lane (nI v) := nI_bv _
theorem narN_lt (lane v : Nat) : narN lane v < 2 ^ 32 := BitVec.isLt _
def R_lay (σ : aS) (k i : Nat) : Int32 := if k < 4 then (if σ 7 k < 3 then (if i < σ 8 k then 1 else -12) else -11) else -1
def N_lay (σ : aS) (k i v : Nat) : aS := if k < 4 ∧ σ 7 k < 3 ∧ i < σ 8 k then us σ 9 (upd1 (σ 9) (40 * k + i) (narN (σ 7 k) v)) else σ
def smI2 (F : Nat → Nat) : Nat → Nat
  | 0 => 0
  | k + 1 => smI2 F k + F (48 * k + 2)
def R_count (σ : aS) (w : Nat) : Int32 := if w = 0 then nI (σ 3 0 + σ 3 1) else if w = 1 then nI (σ 5 1) else if w = 2 then (if σ 7 0 < 3 then nI (σ 8 0) else -4) else if w = 3 then nI (smI2 (σ 4) (σ 5 0)) else -1
section P48
variable {X : cX} {d : Nat} {μ : mM} {K : Option Value → mM → Prop} {f : Nat → Nat → Int32} {x t u y : Nat} {σ : aS}
theorem CI.tape {g : Nat → Nat → Int32} {n : Nat} {T : Nat → Nat} (h : CI f x t σ) (ht : t = x + 4 ∨ t = x + 62) (h4 : σ 5 0 ≤ 4) (hf : ∀ z, z ≠ x + 1 → z ≠ x + 2 → ∀ j, g z j = f z j) (hn : g (x + 1) 1 = nI n) (hT : ∀ i, i < n → g (x + 2) i = nI (T i)) : CI g x t (T_set σ n T) := by
  obtain ⟨h1, h2, h3, h5, h6, h7⟩ := h
  refine ⟨h1.fr (fun z a b j => hf z (by omega) (by omega) j), fun k hk => ?_, ⟨?_, fun k hk => ?_⟩, ⟨hn, hT⟩, ⟨?_, ?_⟩, fun k hk => ?_⟩
  · have e : T_set σ n T (1 + k) = σ (1 + k) := by unfold T_set; rw [us_n (by omega), us_n (by omega)]
    rw [e]
    refine ⟨(h2 k hk).1.fr (fun z a b j => hf z (by omega) (by omega) j), ?_⟩
    rw [hf _ (by omega) (by omega)]
    exact (h2 k hk).2
  · rw [hf _ (by omega) (by omega)]; exact h3.1
  · have hk : k < σ 5 0 := hk
    exact (h3.2 k hk).fr (fun z z1 z2 j => hf z (by omega) (by omega) j)
  · rw [hf _ (by omega) (by omega)]; exact h6.1
  · rw [hf _ (by omega) (by omega)]; exact h6.2
  · exact (h7 k hk).fr (g := g) (fun z hz j => hf z (by omega) (by omega) j)
theorem CI.img {g : Nat → Nat → Int32} {k : Nat} {q : Nat → Nat} (h : CI f x t σ) (ht : t = x + 4 ∨ t = x + 62) (h4 : σ 5 0 ≤ 4) (hk : k < 2) (hf : ∀ z, (z < x + 204 + 24 * k ∨ x + 204 + 24 * k + 24 ≤ z) → z ≠ x + 121 → ∀ j, g z j = f z j) (hk2 : ∀ j, j ≠ k → g (x + 121) j = f (x + 121) j) (hn : g (x + 121) k = 1) (hs : Sh g (x + 204 + 24 * k) q) : CI g x t (I_set σ k q) := by
  obtain ⟨h1, h2, h3, h5, h6, h7⟩ := h
  have e0 : I_set σ k q 0 = σ 0 := by unfold I_set; rw [us_n (by omega), us_n (by omega)]
  have e4 : I_set σ k q 4 = σ 4 := by unfold I_set; rw [us_n (by omega), us_n (by omega)]
  have e5 : I_set σ k q 5 = σ 5 := by unfold I_set; rw [us_n (by omega), us_n (by omega)]
  have e6 : I_set σ k q 6 = σ 6 := by unfold I_set; rw [us_n (by omega), us_n (by omega)]
  have e7 : I_set σ k q 7 = σ 7 := by unfold I_set; rw [us_n (by omega), us_n (by omega)]
  have e8 : I_set σ k q 8 = σ 8 := by unfold I_set; rw [us_n (by omega), us_n (by omega)]
  have e9 : I_set σ k q 9 = σ 9 := by unfold I_set; rw [us_n (by omega), us_n (by omega)]
  have e3 : I_set σ k q 3 = upd1 (σ 3) k 1 := by unfold I_set; rw [us_s]
  unfold CI SHT
  rw [e0, e3, e4, e5, e6, e7, e8, e9]
  refine ⟨h1.fr (fun z a b j => hf z (by omega) (by omega) j), fun i hi => ?_, ⟨?_, fun k hk => ?_⟩, ⟨?_, fun i hi => ?_⟩, ⟨?_, ?_⟩, fun k hk => ?_⟩
  · by_cases c : i = k
    · subst c
      have e : I_set σ i q (1 + i) = q := by unfold I_set; rw [us_n (by omega), us_s]
      rw [e, upd1_s]
      exact ⟨hs, hn⟩
    · have e : I_set σ k q (1 + i) = σ (1 + i) := by unfold I_set; rw [us_n (by omega), us_n (by omega)]
      rw [e, upd1_n c, hk2 i c]
      exact ⟨(h2 i hi).1.fr (fun z a b j => hf z (by omega) (by omega) j), (h2 i hi).2⟩
  · rw [hf _ (by omega) (by omega)]; exact h3.1
  · exact (h3.2 k hk).fr (fun z z1 z2 j => hf z (by omega) (by omega) j)
  · rw [hf _ (by omega) (by omega)]; exact h5.1
  · rw [hf _ (by omega) (by omega)]; exact h5.2 i hi
  · rw [hf _ (by omega) (by omega)]; exact h6.1
  · rw [hf _ (by omega) (by omega)]; exact h6.2
  · exact (h7 k hk).fr (g := g) (fun z hz j => hf z (by omega) (by omega) j)
theorem CI.sht {g : Nat → Nat → Int32} {k : Nat} {σ' : aS} (h : CI f x t σ) (ht : t = x + 4 ∨ t = x + 62) (h4 : σ 5 0 ≤ 4) (hk : k < 4) (hf : ∀ z, z ≠ x + 252 + 2 * k → z ≠ x + 253 + 2 * k → ∀ j, g z j = f z j) (e : ∀ i, i < 7 → σ' i = σ i) (hs : SHT g (x + 252 + 2 * k) σ' k) (ho : ∀ r, r < 4 → r ≠ k → σ' 7 r = σ 7 r ∧ σ' 8 r = σ 8 r ∧ ∀ i, i < 40 → σ' 9 (40 * r + i) = σ 9 (40 * r + i)) : CI g x t σ' := by
  obtain ⟨h1, h2, h3, h5, h6, h7⟩ := h
  have e0 := e 0 (by omega)
  have e3 := e 3 (by omega)
  have e4 := e 4 (by omega)
  have e5 := e 5 (by omega)
  have e6 := e 6 (by omega)
  unfold CI
  rw [e0, e3, e4, e5, e6]
  refine ⟨h1.fr (fun z a b j => hf z (by omega) (by omega) j), fun i hi => ?_, ⟨?_, fun k hk => ?_⟩, ⟨?_, fun i hi => ?_⟩, ⟨?_, ?_⟩, fun r hr => ?_⟩
  · rw [e (1 + i) (by omega), hf (x + 121) (by omega) (by omega)]
    exact ⟨(h2 i hi).1.fr (fun z a b j => hf z (by omega) (by omega) j), (h2 i hi).2⟩
  · rw [hf _ (by omega) (by omega)]; exact h3.1
  · exact (h3.2 k hk).fr (fun z z1 z2 j => hf z (by omega) (by omega) j)
  · rw [hf _ (by omega) (by omega)]; exact h5.1
  · rw [hf _ (by omega) (by omega)]; exact h5.2 i hi
  · rw [hf _ (by omega) (by omega)]; exact h6.1
  · rw [hf _ (by omega) (by omega)]; exact h6.2
  · by_cases c : r = k
    · subst c; exact hs
    · have s := (h7 r hr).fr (g := g) (fun z hz j => hf z (by omega) (by omega) j)
      obtain ⟨o1, o2, o3⟩ := ho r hr c
      unfold SHT at s ⊢
      rw [o1, o2]
      exact ⟨s.1, s.2.1, fun i hi => by rw [o3 i hi]; exact s.2.2 i hi⟩
theorem CI.flt {n : Nat} (h : CI f x t σ) (ht : t = x + 4 ∨ t = x + 62) (h4 : σ 5 0 ≤ 4) : CI (u2 f x 7 (nI n)) x t (us σ 5 (upd1 (σ 5) 3 n)) := by
  have hf : ∀ z, z ≠ x → ∀ j, u2 f x 7 (nI n) z j = f z j := fun z hz j => u2_x hz
  obtain ⟨h1, h2, h3, h5, h6, h7⟩ := h
  refine ⟨h1.fr (fun z a b j => hf z (by omega) j), fun k hk => ?_, ⟨?_, fun k hk => ?_⟩, ⟨?_, fun i hi => ?_⟩, ⟨?_, ?_⟩, fun k hk => ?_⟩
  · rw [us_n (by omega), us_n (by omega), hf _ (by omega)]
    exact ⟨(h2 k hk).1.fr (fun z a b j => hf z (by omega) j), (h2 k hk).2⟩
  · rw [hf _ (by omega)]; exact h3.1
  · have hk : k < σ 5 0 := hk
    exact (h3.2 k hk).fr (fun z z1 z2 j => hf z (by omega) j)
  · rw [hf _ (by omega)]; exact h5.1
  · have hi : i < σ 5 1 := hi
    rw [hf _ (by omega)]; exact h5.2 i hi
  · rw [u2_k (by omega)]; exact h6.1
  · rw [u2_s]; rfl
  · exact (h7 k hk).fr (fun z hz j => hf z (by omega) j)
theorem C_fault (hW : WC μ x t u) (hC : CI f x t σ) (hK : K (some (.int (nI (σ 5 2)))) (sI μ f)) : Ct X (Rm d) mX11_fault [.ref x] (sI μ f) K := by
  refine Ct_of rfl (Nat.le_of_ble_eq_true rfl) (b_X11_fault_0 hW.w11 ?_)
  rw [iv_sI, hC.2.2.2.2.1.1]; exact hK
theorem C_torn (hW : WC μ x t u) (hC : CI f x t σ) (hK : K (some (.int (nI (σ 5 3)))) (sI μ f)) : Ct X (Rm d) mX11_torn [.ref x] (sI μ f) K := by
  refine Ct_of rfl (Nat.le_of_ble_eq_true rfl) (b_X11_torn_0 hW.w11 ?_)
  rw [iv_sI, hC.2.2.2.2.1.2]; exact hK
theorem nar127 {c : Nat} (h : c ≤ 127) : (nI c).toInt8.toInt32 = nI c := by
  have : ∀ c, c < 128 → (nI c).toInt8.toInt32 = nI c := by decide
  exact this c (by omega)
theorem C_feed {c : Nat} (hW : WC μ x t u) (hC : CI f x t σ) (hO : OKs σ) (hc : c < 2 ^ 32) (hK : ∀ f', Fr f f' x 260 → CI f' x t (N_feed σ c) → K (some (.int (R_feed σ c))) (sI μ f')) : Ct X (Rm (d + 1)) mX11_feed [.ref x, .int (nI c)] (sI μ f) K := by
  have h320 := hO.2.2.2.1.1
  have e1 : f (x + 1) 1 = nI (σ 5 1) := hC.2.2.2.1.1
  have c0 := lt0 hc
  have cl : ∀ _ : ¬ nI c < 0, (nI c ≤ (127 : Int32)) ↔ c ≤ 127 := fun q => nI_leI (b := 127) (by rw [c0] at q; omega) (by decide)
  have BAD : ¬ (c ≤ 127 ∧ σ 5 1 < 320) → K (some (.int (R_feed σ c))) (sI μ f) := fun q => by
    have k := hK f (Fr.rf _ _ _)
    unfold N_feed at k
    rw [if_neg q] at k
    exact k hC
  have B1 : ¬ c ≤ 127 → K (some (.int (-1))) (sI μ f) := fun q => by
    have := BAD (fun z => q z.1)
    unfold R_feed at this
    rw [if_neg q] at this
    exact this
  have lf : (iv (sI μ f) (x + 1) 1 < (320 : Int32)) ↔ σ 5 1 < 320 := by rw [iv_sI, e1]; exact nI_ltI (b := 320) (by omega) (by decide)
  refine Ct_of rfl (Nat.le_of_ble_eq_true rfl) (b_X11_feed_0 (hK := fun q => B1 (by rw [c0] at q; omega)) (hw11_r0 := hW.w11) (hw9_r01 := hW.w9) (hc_put := fun q1 q2 => ?_) (hK_2 := fun q1 q2 => B1 (fun z => q2 ((cl q1).mpr z))))
  have z1 := (cl q1).mp q2
  refine Ct_of rfl (Nat.le_of_ble_eq_true rfl) (b_X9_put_0 (j0 := σ 5 1) (hw9_r0 := hW.w9) (hi_j0 := fun _ => e1) (hb := fun q => lf.mp q) (hK := fun q => ?_) (hK_2 := fun q => ?_))
  · have z2 := lf.mp q
    refine b_X11_feed_21 (hK := fun q => absurd q (by decide)) (hw11_r0 := hW.w11) (hw9_r01 := hW.w9) (hK_2 := fun _ => ?_)
    rw [wi_sI, iv_sI, wi_sI, pk_vb, nar127 z1, u2_x (by omega), e1, nI_1, iv_sI, u2_s]
    have r1 : CI (u2 (u2 f (x + 1 + 1) (σ 5 1) (nI c)) (x + 1) 1 (nI (σ 5 1 + 1))) x t (T_set σ (σ 5 1 + 1) (upd1 (σ 6) (σ 5 1) c)) := by
      refine hC.tape hW.t2 hO.2.2.1.1 (fun z a b j => by rw [u2_x a, u2_x (by omega)]) (u2_s _ _ _ _) (fun i hi => ?_)
      rw [u2_x (by omega)]
      by_cases q : i = σ 5 1
      · rw [q, u2_s, upd1_s]
      · rw [u2_k q, upd1_n q]; exact hC.2.2.2.1.2 i (by omega)
    have k := hK (u2 (u2 f (x + 1 + 1) (σ 5 1) (nI c)) (x + 1) 1 (nI (σ 5 1 + 1))) (fun z hz j => by rw [u2_x (by omega), u2_x (by omega)])
    unfold N_feed R_feed at k
    rw [if_pos ⟨z1, z2⟩, if_pos z1, if_pos z2] at k
    exact k r1
  · refine b_X11_feed_21 (hK := fun _ => ?_) (hw11_r0 := hW.w11) (hw9_r01 := hW.w9) (hK_2 := fun q => absurd rfl q)
    rw [lf] at q
    have := BAD (fun z => q z.2)
    unfold R_feed at this
    rw [if_pos z1, if_neg q] at this
    exact this
theorem C_end {n : Nat} (hW : WC μ x t u) (hC : CI f x t σ) (hO : OKs σ) (hn : n < 2 ^ 32) (hK : ∀ f', Fr f f' x 260 → CI f' x t (N_end σ n) → K (some (.int (R_end σ n))) (sI μ f')) : Ct X (Rm d) mX11_end [.ref x, .int (nI n)] (sI μ f) K := by
  have h320 := hO.2.2.2.1.1
  have e1 : f (x + 1) 1 = nI (σ 5 1) := hC.2.2.2.1.1
  have c0 := lt0 hn
  have cl : ∀ _ : ¬ nI n < 0, (nI n ≤ iv (sI μ f) (x + 1) 1) ↔ n ≤ σ 5 1 := fun q => by rw [iv_sI, e1]; exact nI_leI (by rw [c0] at q; omega) (by omega)
  have BAD : ¬ n ≤ σ 5 1 → K (some (.int (-1))) (sI μ f) := fun q => by
    have k := hK f (Fr.rf _ _ _)
    unfold N_end R_end at k
    rw [if_neg q, if_neg q] at k
    exact k hC
  refine Ct_of rfl (Nat.le_of_ble_eq_true rfl) (b_X11_end_0 (hK := fun q => BAD (by rw [c0] at q; omega)) (hw11_r0 := hW.w11) (hw9_r01 := hW.w9) (hK_2 := fun q1 q2 => ?_) (hK_3 := fun q1 q2 => BAD (fun z => q2 ((cl q1).mpr z))))
  have z := (cl q1).mp q2
  rw [wi_sI, iv_sI, e1]
  have r1 : CI (u2 f (x + 1) 1 (nI n)) x t (T_set σ n (σ 6)) := hC.tape hW.t2 hO.2.2.1.1 (fun z a b j => by rw [u2_x a]) (u2_s _ _ _ _) (fun i hi => by rw [u2_x (by omega)]; exact hC.2.2.2.1.2 i (by omega))
  have k := hK (u2 f (x + 1) 1 (nI n)) (fun z hz j => by rw [u2_x (by omega)])
  unfold N_end R_end at k
  rw [if_pos z, if_pos z] at k
  exact k r1
theorem C_keep {k : Nat} (hW : WC μ x t u) (hC : CI f x t σ) (hO : OKs σ) (hk : k < 2 ^ 32) (hK : ∀ f', Fr f f' x 260 → CI f' x t (N_keep σ k) → K (some (.int (R_keep σ k))) (sI μ f')) : Ct X (Rm (d + 2)) mX11_keep [.ref x, .int (nI k)] (sI μ f) K := by
  have e1 := isIm (μ := sI μ f) hk
  have t2 := hW.t2
  have lt : ¬ e_X11_isImage (sI μ f) (nI k) = 0 → k < 2 := fun c => Decidable.byContradiction fun z => c (e1.mpr z)
  have A : k < 2 → G X (Rm (d + 2)) mX11_keep 23 [(0, .ref x), (1, .int (nI k))] [.int (nI (σ 3 k))] (sI μ f) 0 0 K := fun a => by
    refine b_X11_keep_23 (p0 := t) (hw11_r0 := hW.w11) (hb := a) (hr_p0 := hW.rt) (hw10_p0 := hW.wt.1) (hw5_r020424i1 := hW.wim k a) (hc_copy := ?_)
    refine c_copy (hW.wim k a) hW.wt.2.1 (by omega) hC.1 hO.1.2.1 (fun g r1 r2 => b_X11_keep_40 hW.w11 a ?_)
    rw [wi_sI]
    have r3 : CI (u2 g (x + 121) k 1) x t (I_set σ k (σ 0)) := by
      refine hC.img t2 hO.2.2.1.1 a (fun z z1 z2 j => by rw [u2_x z2]; exact r1 z z1 j) (fun j hj => by rw [u2_k hj]; exact r1 _ (by omega) j) (u2_s _ _ _ _) (r2.fr (fun z z1 z2 j => u2_x (by omega)))
    have kk := hK (u2 g (x + 121) k 1) (fun z hz j => by rw [u2_x (by omega)]; exact r1 z (by omega) j)
    unfold N_keep R_keep at kk
    rw [if_pos a, if_pos a] at kk
    exact kk r3
  refine Ct_of rfl (Nat.le_of_ble_eq_true rfl) (b_X11_keep_0 (hw11_r0 := hW.w11) (hb := lt) (h := fun c1 c2 => ?_) (h_2 := fun c1 c2 => ?_) (hK := fun c => ?_))
  · have z := lt c1
    have o := (hO.2.1 k z).2
    rw [iv_sI, (hC.2.1 k z).2, nI_z (by omega)] at c2
    have := A z
    rw [c2] at this; exact this
  · have z := lt c1
    have o := (hO.2.1 k z).2
    rw [iv_sI, (hC.2.1 k z).2, nI_z (by omega)] at c2
    have := A z
    rw [show σ 3 k = 1 by omega] at this; exact this
  · rw [e1] at c
    have kk := hK f (Fr.rf _ _ _)
    unfold N_keep R_keep at kk
    rw [if_neg c, if_neg c] at kk
    exact kk hC
theorem C_back {k : Nat} (hW : WC μ x t u) (hC : CI f x t σ) (hO : OKs σ) (hk : k < 2 ^ 32) (hK : ∀ f', Fr f f' x 260 → CI f' x t (N_back σ k) → K (some (.int (R_back σ k))) (sI μ f')) : Ct X (Rm (d + 2)) mX11_back [.ref x, .int (nI k)] (sI μ f) K := by
  have e1 := isIm (μ := sI μ f) hk
  have t2 := hW.t2
  have lt : ¬ e_X11_isImage (sI μ f) (nI k) = 0 → k < 2 := fun c => Decidable.byContradiction fun z => c (e1.mpr z)
  have ek : ∀ _ : k < 2, iv (sI μ f) (x + 121) k = 0 ↔ σ 3 k = 0 := fun a => by
    have o := (hO.2.1 k a).2
    rw [iv_sI, (hC.2.1 k a).2, nI_z (by omega)]
  have BAD : ¬ (k < 2 ∧ σ 3 k ≠ 0) → K (some (.int (R_back σ k))) (sI μ f) := fun q => by
    have kk := hK f (Fr.rf _ _ _)
    unfold N_back at kk
    rw [if_neg q] at kk
    exact kk hC
  refine Ct_of rfl (Nat.le_of_ble_eq_true rfl) (b_X11_back_0 (p0 := t) (hw11_r0 := hW.w11) (hb := lt) (hr_p0 := hW.rt) (hw10_p0 := hW.wt.1) (hb_2 := fun c _ => lt c) (hw5_p01 := hW.wt.2.1) (hc_copy := fun c1 c2 => ?_) (hK := fun c1 c2 => ?_) (hK_2 := fun c => ?_))
  · have a := lt c1
    rw [ek a] at c2
    refine c_copy hW.wt.2.1 (hW.wim k a) (by omega) (hC.2.1 k a).1 (hO.2.1 k a).1.2.1 (fun g r1 r2 => b_X11_back_37 (p0 := t) hW.w11 hW.rt hW.wt.1 hW.wt.2.1 ?_)
    have r := hC.np (g := g) hW hO (FrC.shape r1) r2
    have kk := hK g r.1
    unfold N_back R_back at kk
    rw [if_pos ⟨a, c2⟩, if_pos a, if_neg c2] at kk
    rw [iv_sI, r2.1]
    exact kk r.2
  · have a := lt c1
    rw [ek a] at c2
    have := BAD (fun z => z.2 c2)
    unfold R_back at this
    rw [if_pos a, if_pos c2] at this
    exact this
  · rw [e1] at c
    have := BAD (fun z => c z.1)
    unfold R_back at this
    rw [if_neg c] at this
    exact this
theorem C_covers {k w : Nat} (hW : WC μ x t u) (hC : CI f x t σ) (hO : OKs σ) (hk : k < 2 ^ 32) (hw : w < 2 ^ 32) (hK : ∀ f', Fr f f' x 260 → CI f' x t σ → K (some (.int (R_covers σ k w))) (sI μ f')) : Ct X (Rm (d + 10)) mX11_covers [.ref x, .int (nI k), .int (nI w)] (sI μ f) K := by
  have e1 := isIm (μ := sI μ f) hk
  have e2 := isSw (μ := sI μ f) hw
  have t2 := hW.t2
  have lt : ¬ e_X11_isImage (sI μ f) (nI k) = 0 → k < 2 := fun c => Decidable.byContradiction fun z => c (e1.mpr z)
  have ek : ∀ _ : k < 2, iv (sI μ f) (x + 121) k = 0 ↔ σ 3 k = 0 := fun a => by
    have o := (hO.2.1 k a).2
    rw [iv_sI, (hC.2.1 k a).2, nI_z (by omega)]
  have wz : (nI w = 0) ↔ w = 0 := nI_eqU (b := 0) hw (by decide)
  have BAD : ¬ (k < 2 ∧ w ≤ 1) → K (some (.int (-1))) (sI μ f) := fun q => by
    have kk := hK f (Fr.rf _ _ _) hC
    unfold R_covers at kk
    rw [if_neg q] at kk
    exact kk
  have E : ∀ g r, (∀ z, z ≠ x + 201 + 1 → z ≠ x + 201 + 2 → ∀ q, g z q = f z q) → k < 2 → w ≤ 1 → σ 3 k ≠ 0 → r ≤ 1 → r = (if w = 0 then cvB (σ 0) (σ (1 + k)) else cvB (σ (1 + k)) (σ 0)) → G X (Rm (d + 6 + 4)) mX11_covers 75 [] [.int (nI r)] (sI μ g) 0 0 K := fun g r h1 a b c r1 er => by
    have fc : FrC f g x t := fun z _ z2 _ j => h1 z (by omega) (by omega) j
    have sf : Sh g (t + 1) (σ 0) := hC.1.fr (fun z z1 z2 j => h1 z (by omega) (by omega) j)
    have kk := hK g (fc.out t2) (hC.same fc.toI t2 sf hO.2.2.1.1)
    unfold R_covers at kk
    rw [if_pos ⟨a, b⟩, if_neg c, ← er] at kk
    refine b_X11_covers_75 (hK := fun q => ?_) (hK_2 := fun q => ?_)
    · rw [nI_z (by omega)] at q
      rw [q] at kk; exact kk
    · rw [nI_z (by omega)] at q
      rw [show r = 1 by omega] at kk; exact kk
  refine Ct_of rfl (Nat.le_of_ble_eq_true rfl) (b_X11_covers_0 (d := d + 6) (p0 := t) (hK := fun c => BAD (fun z => (e1.mp c) z.1)) (hw11_r0 := hW.w11) (hb := fun c _ => lt c) (hb_2 := fun c _ _ _ => lt c) (hr_p0 := hW.rt) (hw10_p0 := hW.wt.1) (hw0_r0201 := hW.w0) (hc_holds := fun c1 c2 c3 c4 => ?_) (hb_3 := fun c _ _ _ => lt c) (hc_holds_2 := fun c1 c2 c3 c4 => ?_) (hK_2 := fun c1 c2 c3 => ?_) (hK_3 := fun _ c => BAD (fun z => (e2.mp c) z.2)))
  · have a := lt c1
    rw [e2] at c2
    rw [ek a] at c3
    rw [wz] at c4
    refine c_holds (d := d) (W := σ (1 + k)) (O := σ 0) (hW.wim k a) hW.wt.2.1 hW.w0 (by omega) (by omega) (hO.2.1 k a).1 hO.1 (hC.2.1 k a).1 hC.1 (fun g r h1 r1 r2 => E g r h1 a (by omega) c3 r1 ?_)
    rw [if_neg c4]; exact cvB_eq r1 r2
  · have a := lt c1
    rw [e2] at c2
    rw [ek a] at c3
    rw [wz] at c4
    refine c_holds (d := d) (W := σ 0) (O := σ (1 + k)) hW.wt.2.1 (hW.wim k a) hW.w0 (by omega) (by omega) hO.1 (hO.2.1 k a).1 hC.1 (hC.2.1 k a).1 (fun g r h1 r1 r2 => b_X11_covers_52 (E g r h1 a (by omega) c3 r1 ?_))
    rw [if_pos c4]; exact cvB_eq r1 r2
  · have a := lt c1
    rw [e2] at c2
    rw [ek a] at c3
    have kk := hK f (Fr.rf _ _ _) hC
    unfold R_covers at kk
    rw [if_pos ⟨a, by omega⟩, if_pos c3] at kk
    exact kk
end P48
