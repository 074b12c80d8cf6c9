theorem bmodP (z : Int) (m : Nat) : z.bmod m = if z % m < ((m + 1) / 2 : Nat) then z % m else z % m - m := by
  rw [Int.bmod_def]
  rfl
theorem sh24 (z : Int32) : (z <<< ((24 : Int32) &&& 31)) >>> ((24 : Int32) &&& 31) = z.toInt8.toInt32 := by
  apply Int32.toInt_inj.mp
  have h := pk_shl z ((24 : Int32) &&& 31) 24 (by decide)
  rw [pk_shr _ ((24 : Int32) &&& 31) 24 (by decide), Int8.toInt_toInt32, Int32.toInt_toInt8]
  have e1 : (z <<< ((24 : Int32) &&& 31)).toInt = ((z <<< ((24 : Int32) &&& 31)).toBitVec).toInt := rfl
  have e2 : z.toInt = z.toBitVec.toInt := rfl
  rw [e1, e2, BitVec.toInt_eq_toNat_cond, BitVec.toInt_eq_toNat_cond, Int.shiftRight_eq_div_pow, h, bmodP]
  have l2 := z.toBitVec.isLt
  generalize z.toBitVec.toNat = b at *
  have p24 : ((2 ^ 24 : Nat) : Int) = 16777216 := by decide
  have p8 : ((2 ^ 8 : Nat) : Int) = 256 := by decide
  have p7 : (((2 ^ 8 + 1) / 2 : Nat) : Int) = 128 := by decide
  rw [p24, p8, p7]
  split <;> split <;> split <;> omega
theorem sh16 (z : Int32) : (z <<< ((16 : Int32) &&& 31)) >>> ((16 : Int32) &&& 31) = z.toInt16.toInt32 := by
  apply Int32.toInt_inj.mp
  have h := pk_shl z ((16 : Int32) &&& 31) 16 (by decide)
  rw [pk_shr _ ((16 : Int32) &&& 31) 16 (by decide), Int16.toInt_toInt32, Int32.toInt_toInt16]
  have e1 : (z <<< ((16 : Int32) &&& 31)).toInt = ((z <<< ((16 : Int32) &&& 31)).toBitVec).toInt := rfl
  have e2 : z.toInt = z.toBitVec.toInt := rfl
  rw [e1, e2, BitVec.toInt_eq_toNat_cond, BitVec.toInt_eq_toNat_cond, Int.shiftRight_eq_div_pow, h, bmodP]
  have l2 := z.toBitVec.isLt
  generalize z.toBitVec.toNat = b at *
  have p24 : ((2 ^ 16 : Nat) : Int) = 65536 := by decide
  have p7 : (((2 ^ 16 + 1) / 2 : Nat) : Int) = 32768 := by decide
  rw [p24, p7]
  split <;> split <;> split <;> omega
section P52
variable {X : cX} {d : Nat} {μ : mM} {K : Option Value → mM → Prop} {f : Nat → Nat → Int32} {y : Nat} {σ : aS}
theorem MI.tape {g : Nat → Nat → Int32} {n : Nat} {T : Nat → Nat} (h : MI f y σ) (hf : ∀ z, z ≠ y → z ≠ y + 4 → ∀ j, g z j = f z j) (hy : ∀ j, j ≠ 6 → g y j = f y j) (hn : g y 6 = nI n) (hT : ∀ i, i < n → g (y + 4) i = nI (T i)) : MI g y (T_set σ n T) := by
  obtain ⟨h1, h2, h3, h5, h6, h7, h8, h9⟩ := h
  refine ⟨h1.fr (fun k _ => hf _ (by omega) (by omega) k), fun k hk => ?_, ⟨?_, fun k hk => ?_⟩, ⟨hn, hT⟩, ⟨?_, ?_⟩, fun k hk => ?_, fun i hi => ?_, fun i hi => ?_, fun i hi => ?_⟩
  · have e : T_set σ n T (1 + k) = σ (1 + k) := by unfold T_set; rw [us_n (by omega), us_n (by omega)]
    rw [e, hf _ (by omega) (by omega)]
    exact ⟨fun i hi => by rw [hf _ (by omega) (by omega)]; exact (h2 k hk).1 i hi, (h2 k hk).2⟩
  · rw [hy _ (by decide)]; exact h3.1
  · rw [hf _ (by omega) (by omega)]; exact h3.2 k hk
  · rw [hy _ (by decide)]; exact h6.1
  · rw [hy _ (by decide)]; exact h6.2
  · rw [hf _ (by omega) (by omega), hf _ (by omega) (by omega)]; exact h7 k hk
  · rw [hf _ (by omega) (by omega)]; exact h8 i hi
  · rw [hf _ (by omega) (by omega)]; exact h9.1 i hi
  · rw [hf _ (by omega) (by omega)]; exact h9.2 i hi
theorem MI.img {g : Nat → Nat → Int32} {k : Nat} {q : Nat → Nat} (h : MI f y σ) (hk : k < 2) (hf : ∀ z, z ≠ y + 1 → z ≠ y + 12 → ∀ j, g z j = f z j) (hs1 : ∀ j, (j < 61 + 61 * k ∨ 122 + 61 * k ≤ j) → g (y + 1) j = f (y + 1) j) (hk2 : ∀ j, j ≠ k → g (y + 12) j = f (y + 12) j) (hn : g (y + 12) k = 1) (hs : Pg g y (61 + 61 * k) q) : MI g y (I_set σ k q) := by
  obtain ⟨h1, h2, h3, h5, h6, h7, h8, h9⟩ := h
  have e0 : I_set σ k q 0 = σ 0 := by unfold I_set; rw [us_n (by omega), us_n (by omega)]
  have e4 : I_set σ k q 4 = σ 4 := by unfold I_set; rw [us_n (by omega), us_n (by omega)]
  have e5 : I_set σ k q 5 = σ 5 := by unfold I_set; rw [us_n (by omega), us_n (by omega)]
  have e6 : I_set σ k q 6 = σ 6 := by unfold I_set; rw [us_n (by omega), us_n (by omega)]
  have e7 : I_set σ k q 7 = σ 7 := by unfold I_set; rw [us_n (by omega), us_n (by omega)]
  have e8 : I_set σ k q 8 = σ 8 := by unfold I_set; rw [us_n (by omega), us_n (by omega)]
  have e9 : I_set σ k q 9 = σ 9 := by unfold I_set; rw [us_n (by omega), us_n (by omega)]
  have e3 : I_set σ k q 3 = upd1 (σ 3) k 1 := by unfold I_set; rw [us_s]
  unfold MI
  rw [e0, e3, e4, e5, e6, e7, e8, e9]
  refine ⟨h1.fr (fun k _ => hs1 _ (by omega)), fun i hi => ?_, ⟨?_, fun k hk => ?_⟩, ⟨?_, fun i hi => ?_⟩, ⟨?_, ?_⟩, fun k hk => ?_, fun i hi => ?_, fun i hi => ?_, fun i hi => ?_⟩
  · by_cases c : i = k
    · subst c
      have e : I_set σ i q (1 + i) = q := by unfold I_set; rw [us_n (by omega), us_s]
      rw [e, upd1_s]
      exact ⟨hs, hn⟩
    · have e : I_set σ k q (1 + i) = σ (1 + i) := by unfold I_set; rw [us_n (by omega), us_n (by omega)]
      rw [e, upd1_n c, hk2 i c]
      exact ⟨fun j hj => by rw [hs1 _ (by omega)]; exact (h2 i hi).1 j hj, (h2 i hi).2⟩
  · rw [hf _ (by omega) (by omega)]; exact h3.1
  · rw [hf _ (by omega) (by omega)]; exact h3.2 k hk
  · rw [hf _ (by omega) (by omega)]; exact h5.1
  · rw [hf _ (by omega) (by omega)]; exact h5.2 i hi
  · rw [hf _ (by omega) (by omega)]; exact h6.1
  · rw [hf _ (by omega) (by omega)]; exact h6.2
  · rw [hf _ (by omega) (by omega), hf _ (by omega) (by omega)]; exact h7 k hk
  · rw [hf _ (by omega) (by omega)]; exact h8 i hi
  · rw [hf _ (by omega) (by omega)]; exact h9.1 i hi
  · rw [hf _ (by omega) (by omega)]; exact h9.2 i hi
theorem MI.sht {g : Nat → Nat → Int32} {σ' : aS} (h : MI f y σ) (hf : ∀ z, z ≠ y + 14 → z ≠ y + 15 → z ≠ y + 16 → ∀ j, g z j = f z j) (e : ∀ i, i < 7 → σ' i = σ i) (hl : ∀ k, k < 4 → (g (y + 14) k = if σ' 7 k < 3 then nI (σ' 7 k) else -4) ∧ (σ' 7 k < 3 → g (y + 15) k = nI (σ' 8 k))) (hc : ∀ i, i < 160 → g (y + 16) i = nI (σ' 9 i)) : MI g y σ' := by
  obtain ⟨h1, h2, h3, h5, h6, h7, h8, h9⟩ := h
  have e0 := e 0 (by omega)
  have e3 := e 3 (by omega)
  have e4 := e 4 (by omega)
  have e5 := e 5 (by omega)
  have e6 := e 6 (by omega)
  unfold MI
  rw [e0, e3, e4, e5, e6]
  refine ⟨h1.fr (fun k _ => hf _ (by omega) (by omega) (by omega) k), fun i hi => ?_, ⟨?_, fun k hk => ?_⟩, ⟨?_, fun i hi => ?_⟩, ⟨?_, ?_⟩, hl, hc, fun i hi => ?_, fun i hi => ?_⟩
  · rw [e (1 + i) (by omega), hf (y + 12) (by omega) (by omega) (by omega)]
    exact ⟨fun j hj => by rw [hf _ (by omega) (by omega) (by omega)]; exact (h2 i hi).1 j hj, (h2 i hi).2⟩
  · rw [hf _ (by omega) (by omega) (by omega)]; exact h3.1
  · rw [hf _ (by omega) (by omega) (by omega)]; exact h3.2 k hk
  · rw [hf _ (by omega) (by omega) (by omega)]; exact h5.1
  · rw [hf _ (by omega) (by omega) (by omega)]; exact h5.2 i hi
  · rw [hf _ (by omega) (by omega) (by omega)]; exact h6.1
  · rw [hf _ (by omega) (by omega) (by omega)]; exact h6.2
  · rw [hf _ (by omega) (by omega) (by omega)]; exact h9.1 i hi
  · rw [hf _ (by omega) (by omega) (by omega)]; exact h9.2 i hi
theorem MI.flt {n : Nat} (h : MI f y σ) : MI (u2 f y 28 (nI n)) y (us σ 5 (upd1 (σ 5) 3 n)) := by
  have hf : ∀ z, z ≠ y → ∀ j, u2 f y 28 (nI n) z j = f z j := fun z hz j => u2_x hz
  have hy : ∀ j, j ≠ 28 → u2 f y 28 (nI n) y j = f y j := fun j hj => u2_k hj
  obtain ⟨h1, h2, h3, h5, h6, h7, h8, h9⟩ := h
  refine ⟨h1.fr (fun k _ => hf _ (by omega) k), fun k hk => ?_, ⟨?_, fun k hk => ?_⟩, ⟨?_, fun i hi => ?_⟩, ⟨?_, ?_⟩, fun k hk => ?_, fun i hi => ?_, fun i hi => ?_, fun i hi => ?_⟩
  · rw [us_n (by omega), us_n (by omega), hf _ (by omega)]
    exact ⟨fun j hj => by rw [hf _ (by omega)]; exact (h2 k hk).1 j hj, (h2 k hk).2⟩
  · rw [hy _ (by decide)]; exact h3.1
  · rw [hf _ (by omega)]; exact h3.2 k hk
  · rw [hy _ (by decide)]; exact h5.1
  · have hi : i < σ 5 1 := hi
    rw [hf _ (by omega)]; exact h5.2 i hi
  · rw [hy _ (by decide)]; exact h6.1
  · rw [u2_s]; rfl
  · rw [hf _ (by omega), hf _ (by omega)]; exact h7 k hk
  · rw [hf _ (by omega)]; exact h8 i hi
  · rw [hf _ (by omega)]; exact h9.1 i hi
  · rw [hf _ (by omega)]; exact h9.2 i hi
theorem M_fault (hw : WF12 μ y) (hM : MI f y σ) (hK : K (some (.int (nI (σ 5 2)))) (sI μ f)) : Ct X (Rm d) mX12_fault [.ref y] (sI μ f) K := by
  refine Ct_of rfl (Nat.le_of_ble_eq_true rfl) (b_X12_fault_0 hw ?_)
  rw [iv_sI, hM.2.2.2.2.1.1]; exact hK
theorem M_torn (hw : WF12 μ y) (hM : MI f y σ) (hK : K (some (.int (nI (σ 5 3)))) (sI μ f)) : Ct X (Rm d) mX12_torn [.ref y] (sI μ f) K := by
  refine Ct_of rfl (Nat.le_of_ble_eq_true rfl) (b_X12_torn_0 hw ?_)
  rw [iv_sI, hM.2.2.2.2.1.2]; exact hK
theorem M_feed {c : Nat} (hw : WF12 μ y) (hM : MI f y σ) (hO : OKs σ) (hc : c < 2 ^ 32) (hK : ∀ f', Fr f f' y 17 → MI f' y (N_feed σ c) → K (some (.int (R_feed σ c))) (sI μ f')) : Ct X (Rm (d + 1)) mX12_feed [.ref y, .int (nI c)] (sI μ f) K := by
  have h320 := hO.2.2.2.1.1
  have e1 : f y 6 = nI (σ 5 1) := hM.2.2.2.1.1
  have ec := e_inN (μ := sI μ f) (n := 127) (c := 127) hc (by decide) (by decide)
  have lf : (iv (sI μ f) y 6 = (320 : Int32)) ↔ σ 5 1 = 320 := by rw [iv_sI, e1]; exact nI_eq (b := 320) (by omega) (by decide)
  unfold N_feed R_feed at hK
  refine Ct_of rfl (Nat.le_of_ble_eq_true rfl) (b_X12_feed_0 (j0 := σ 5 1) (hw12_r0 := hw) (hi_j0 := fun _ _ => e1) (hb := fun _ q => by rw [lf] at q; omega) (hK := fun q1 q2 => ?_) (hK_2 := fun q1 q2 => ?_) (hK_3 := fun q => ?_))
  · have z1 : c ≤ 127 := Decidable.byContradiction fun z => q1 (ec.mpr z)
    rw [lf] at q2
    have z2 : σ 5 1 < 320 := by omega
    rw [if_pos ⟨z1, z2⟩, if_pos z1, if_pos z2] at hK
    rw [wi_sI, iv_sI, u2_x (by omega), e1, nI_1, wi_sI, iv_sI, u2_s]
    refine hK (u2 (u2 f (y + 4) (σ 5 1) (nI c)) y 6 (nI (σ 5 1 + 1))) (fun z hz j => by rw [u2_x (by omega), u2_x (by omega)]) (hM.tape (fun z a b j => by rw [u2_x a, u2_x b]) (fun j hj => by rw [u2_k hj, u2_x (by omega)]) (u2_s _ _ _ _) (fun i hi => ?_))
    rw [u2_x (by omega)]
    by_cases q : i = σ 5 1
    · rw [q, u2_s, upd1_s]
    · rw [u2_k q, upd1_n q]; exact hM.2.2.2.1.2 i (by omega)
  · have z1 : c ≤ 127 := Decidable.byContradiction fun z => q1 (ec.mpr z)
    rw [lf] at q2
    rw [if_neg (by omega), if_pos z1, if_neg (by omega)] at hK
    exact hK f (Fr.rf _ _ _) hM
  · have z := ec.mp q
    rw [if_neg (fun q => z q.1), if_neg z] at hK
    exact hK f (Fr.rf _ _ _) hM
theorem M_end {n : Nat} (hw : WF12 μ y) (hM : MI f y σ) (hO : OKs σ) (hn : n < 2 ^ 32) (hK : ∀ f', Fr f f' y 17 → MI f' y (N_end σ n) → K (some (.int (R_end σ n))) (sI μ f')) : Ct X (Rm (d + 1)) mX12_end [.ref y, .int (nI n)] (sI μ f) K := by
  have h320 := hO.2.2.2.1.1
  have e1 : iv (sI μ f) y 6 = nI (σ 5 1) := hM.2.2.2.1.1
  have ec := e_inT (μ := sI μ f) (n := σ 5 1) (z := iv (sI μ f) y 6) hn e1 (by omega)
  unfold N_end R_end at hK
  refine Ct_of rfl (Nat.le_of_ble_eq_true rfl) (b_X12_end_0 (hw12_r0 := hw) (hK := fun q => ?_) (hK_2 := fun q => ?_))
  · have z : n ≤ σ 5 1 := Decidable.byContradiction fun z => q (ec.mpr z)
    rw [if_pos z, if_pos z] at hK
    rw [wi_sI, e1]
    exact hK (u2 f y 6 (nI n)) (fun z hz j => u2_x (by omega)) (hM.tape (fun z a b j => u2_x a) (fun j hj => u2_k hj) (u2_s _ _ _ _) (fun i hi => by rw [u2_x (by omega)]; exact hM.2.2.2.1.2 i (by omega)))
  · have z := ec.mp q
    rw [if_neg z, if_neg z] at hK
    exact hK f (Fr.rf _ _ _) hM
theorem M_keep {k : Nat} (hw : WF12 μ y) (hM : MI f y σ) (hO : OKs σ) (hk : k < 2 ^ 32) (hK : ∀ f', Fr f f' y 17 → MI f' y (N_keep σ k) → K (some (.int (R_keep σ k))) (sI μ f')) : Ct X (Rm (d + 1)) mX12_keep [.ref y, .int (nI k)] (sI μ f) K := by
  have ec := e_inN (μ := sI μ f) (n := 1) (c := 1) hk (by decide) (by decide)
  have lt : ¬ e_X12_in (sI μ f) ((nI k).toInt64) 0 1 = 0 → k < 2 := fun c => Decidable.byContradiction fun z => c (ec.mpr (by omega))
  unfold N_keep R_keep at hK
  have A : k < 2 → G X (Rm (d + 1)) mX12_keep 26 [(0, .ref y), (1, .int (nI k))] [.int (nI (σ 3 k))] (sI μ f) 0 0 K := fun a => by
    rw [if_pos a, if_pos a] at hK
    refine b_X12_keep_26 hw ?_
    rw [show (61 : Int32) * nI k + 61 = nI (61 * k + 61) by rw [show (61 : Int32) = nI 61 from rfl, pk_mul, nI_add]]
    refine m_copies (P := 0) (Q := 61 * k + 61) hw (Pg_0.mpr hM.1) (by decide) (by omega) (by omega) (fun g r1 r2 r3 => b_X12_keep_39 hw a ?_)
    rw [wi_sI]
    rw [Nat.add_comm] at r2 r3
    refine hK (u2 g (y + 12) k 1) (fun z hz j => by rw [u2_x (by omega)]; exact r1 z (by omega) j) (hM.img a (fun z z1 z2 j => by rw [u2_x z2]; exact r1 z z1 j) (fun j hj => by rw [u2_x (by omega)]; exact r2 j (by omega)) (fun j hj => by rw [u2_k hj]; exact r1 _ (by omega) j) (u2_s _ _ _ _) (fun i hi => by rw [u2_x (by omega)]; exact r3 i hi))
  refine Ct_of rfl (Nat.le_of_ble_eq_true rfl) (b_X12_keep_0 (hw12_r0 := hw) (hb := lt) (h := fun c1 c2 => ?_) (h_2 := fun c1 c2 => ?_) (hK := fun c => ?_))
  · have z := lt c1
    have o := (hO.2.1 k z).2
    rw [iv_sI, (hM.2.1 k z).2, nI_z (by omega)] at c2
    have := A z
    rw [c2] at this; exact this
  · have z := lt c1
    have o := (hO.2.1 k z).2
    rw [iv_sI, (hM.2.1 k z).2, nI_z (by omega)] at c2
    have := A z
    rw [show σ 3 k = 1 by omega] at this; exact this
  · have z := ec.mp c
    rw [if_neg (by omega), if_neg (by omega)] at hK
    exact hK f (Fr.rf _ _ _) hM
theorem M_back {k : Nat} (hw : WF12 μ y) (hM : MI f y σ) (hO : OKs σ) (hk : k < 2 ^ 32) (hK : ∀ f', Fr f f' y 17 → MI f' y (N_back σ k) → K (some (.int (R_back σ k))) (sI μ f')) : Ct X (Rm (d + 1)) mX12_back [.ref y, .int (nI k)] (sI μ f) K := by
  have ec := e_inN (μ := sI μ f) (n := 1) (c := 1) hk (by decide) (by decide)
  have lt : ¬ e_X12_in (sI μ f) ((nI k).toInt64) 0 1 = 0 → k < 2 := fun c => Decidable.byContradiction fun z => c (ec.mpr (by omega))
  have ek : ∀ _ : k < 2, iv (sI μ f) (y + 12) k = 0 ↔ σ 3 k = 0 := fun a => by
    have o := (hO.2.1 k a).2
    rw [iv_sI, (hM.2.1 k a).2, nI_z (by omega)]
  unfold N_back R_back at hK
  refine Ct_of rfl (Nat.le_of_ble_eq_true rfl) (b_X12_back_0 (hw12_r0 := hw) (hb := lt) (hc_copies := fun c1 c2 => ?_) (hK := fun c1 c2 => ?_) (hK_2 := fun c => ?_))
  · have a := lt c1
    rw [ek a] at c2
    rw [if_pos ⟨a, c2⟩, if_pos a, if_neg c2] at hK
    rw [show (61 : Int32) * nI k + 61 = nI (61 + 61 * k) by rw [show (61 : Int32) = nI 61 from rfl, pk_mul, nI_add, Nat.add_comm]]
    refine m_copies (P := 61 + 61 * k) (Q := 0) hw (hM.2.1 k a).1 (by omega) (by decide) (by omega) (fun g r1 r2 r3 => b_X12_back_36 hw ?_)
    have pg : Pg0 g y (σ (1 + k)) := Pg_0.mp r3
    have mf : MF2 f g y := ⟨fun z _ a _ _ j => r1 z a j, fun k h1 _ => r2 k (by omega), fun k _ => r1 _ (by omega) k⟩
    have r := hM.np mf pg
    have e : e_X12_nodes (sI μ g) y = nI (σ (1 + k) 60) := pg 60 (by decide)
    rw [e]
    exact hK g r.1 r.2
  · have a := lt c1
    rw [ek a] at c2
    rw [if_neg (fun z => z.2 c2), if_pos a, if_pos c2] at hK
    exact hK f (Fr.rf _ _ _) hM
  · have z := ec.mp c
    rw [if_neg (by omega), if_neg (by omega)] at hK
    exact hK f (Fr.rf _ _ _) hM
theorem M_covers {k w : Nat} (hw : WF12 μ y) (hM : MI f y σ) (hO : OKs σ) (hk : k < 2 ^ 32) (hw2 : w < 2 ^ 32) (hK : ∀ f', Fr f f' y 17 → MI f' y σ → K (some (.int (R_covers σ k w))) (sI μ f')) : Ct X (Rm (d + 3)) mX12_covers [.ref y, .int (nI k), .int (nI w)] (sI μ f) K := by
  have ec := e_inN (μ := sI μ f) (n := 1) (c := 1) hk (by decide) (by decide)
  have lt : ¬ e_X12_in (sI μ f) ((nI k).toInt64) 0 1 = 0 → k < 2 := fun c => Decidable.byContradiction fun z => c (ec.mpr (by omega))
  have e2 := isFl (μ := sI μ f) hw2
  have ek : ∀ _ : k < 2, iv (sI μ f) (y + 12) k = 0 ↔ σ 3 k = 0 := fun a => by
    have o := (hO.2.1 k a).2
    rw [iv_sI, (hM.2.1 k a).2, nI_z (by omega)]
  have wz : (nI w = 0) ↔ w = 0 := nI_eqU (b := 0) hw2 (by decide)
  have BAD : ¬ (k < 2 ∧ w ≤ 1) → K (some (.int (-1))) (sI μ f) := fun q => by
    have kk := hK f (Fr.rf _ _ _) hM
    unfold R_covers at kk
    rw [if_neg q] at kk
    exact kk
  have E : ∀ g r, (∀ z, z ≠ y + 13 → ∀ q, g z q = f z q) → k < 2 → w ≤ 1 → σ 3 k ≠ 0 → r ≤ 1 → r = (if w = 0 then cvB (σ 0) (σ (1 + k)) else cvB (σ (1 + k)) (σ 0)) → (nI r = 0 → K (some (.int 0)) (sI μ g)) ∧ (¬ nI r = 0 → K (some (.int 1)) (sI μ g)) := fun g r h1 a b c r1 er => by
    have mf : MF2 f g y := MF2.sc (fun z _ b j => h1 z b j)
    have rr := hM.ns mf (hM.1.fr (fun k _ => h1 _ (by omega) k))
    have kk := hK g rr.1 rr.2
    unfold R_covers at kk
    rw [if_pos ⟨a, b⟩, if_neg c, ← er] at kk
    refine ⟨fun q => ?_, fun q => ?_⟩
    · rw [nI_z (by omega)] at q
      rw [q] at kk; exact kk
    · rw [nI_z (by omega)] at q
      rw [show r = 1 by omega] at kk; exact kk
  have e61 : (61 : Int32) * nI k + 61 = nI (61 + 61 * k) := by rw [show (61 : Int32) = nI 61 from rfl, pk_mul, nI_add, Nat.add_comm]
  refine Ct_of rfl (Nat.le_of_ble_eq_true rfl) (b_X12_covers_0 (hK := fun c => BAD (fun z => by have := ec.mp c; omega)) (hs := fun _ => e_in01 _ _ _ _) (hw12_r0 := hw) (hb := fun c _ => lt c) (hc_isCovering := fun c1 c2 c3 c4 => ?_) (hc_isCovering_2 := fun c1 c2 c3 c4 => ?_) (hK_2 := fun c1 c2 c3 => ?_) (hK_3 := fun _ c => BAD (fun z => (e2.mp c) z.2)))
  · have a := lt c1
    have b : w ≤ 1 := Decidable.byContradiction fun z => c2 (e2.mpr z)
    rw [ek a] at c3
    rw [wz] at c4
    rw [e61]
    refine m_isCov (P := 61 + 61 * k) (Q := 0) (W := σ (1 + k)) (O := σ 0) hw (by omega) (by decide) (hM.2.1 k a).1 (Pg_0.mpr hM.1) (hO.2.1 k a).1 hO.1 (fun g r h1 r1 r2 => ?_)
    have ee := E g r h1 a b c3 r1 (by rw [if_neg c4]; exact cvB_eq r1 r2)
    exact b_X12_covers_61 ee.1 ee.2
  · have a := lt c1
    have b : w ≤ 1 := Decidable.byContradiction fun z => c2 (e2.mpr z)
    rw [ek a] at c3
    rw [wz] at c4
    rw [e61]
    refine m_isCov (P := 0) (Q := 61 + 61 * k) (W := σ 0) (O := σ (1 + k)) hw (by decide) (by omega) (Pg_0.mpr hM.1) (hM.2.1 k a).1 hO.1 (hO.2.1 k a).1 (fun g r h1 r1 r2 => ?_)
    have ee := E g r h1 a b c3 r1 (by rw [if_pos c4]; exact cvB_eq r1 r2)
    exact b_X12_covers_49 ee.1 ee.2
  · have a := lt c1
    have b : w ≤ 1 := Decidable.byContradiction fun z => c2 (e2.mpr z)
    rw [ek a] at c3
    have kk := hK f (Fr.rf _ _ _) hM
    unfold R_covers at kk
    rw [if_pos ⟨a, b⟩, if_pos c3] at kk
    exact kk
theorem M_sheet {k L n : Nat} (hw : WF12 μ y) (hM : MI f y σ) (hO : OKs σ) (hk : k < 2 ^ 32) (hL : L < 2 ^ 32) (hn : n < 2 ^ 32) (hK : ∀ f', Fr f f' y 17 → MI f' y (N_sheet σ k L n) → K (some (.int (R_sheet k L n))) (sI μ f')) : Ct X (Rm (d + 1)) mX12_sheet [.ref y, .int (nI k), .int (nI L), .int (nI n)] (sI μ f) K := by
  have ek := e_inN (μ := sI μ f) (n := 3) (c := 3) hk (by decide) (by decide)
  have eL := e_inN (μ := sI μ f) (n := 2) (c := 2) hL (by decide) (by decide)
  have n0 := lt0 hn
  have lk : ¬ e_X12_in (sI μ f) ((nI k).toInt64) 0 3 = 0 → k < 4 := fun c => Decidable.byContradiction fun z => c (ek.mpr (by omega))
  have lL : ¬ e_X12_in (sI μ f) ((nI L).toInt64) 0 2 = 0 → L < 3 := fun c => Decidable.byContradiction fun z => c (eL.mpr (by omega))
  have n40 : (nI n ≤ (40 : Int32)) ↔ (n ≤ 40 ∨ 2 ^ 31 ≤ n) := by
    by_cases q : 2 ^ 31 ≤ n
    · have q1 := n0.mpr q
      have : nI n ≤ (40 : Int32) := by
        rw [Int32.le_iff_toInt_le]
        rw [Int32.lt_iff_toInt_lt] at q1
        have e40 : (40 : Int32).toInt = 40 := by decide
        have e00 : (0 : Int32).toInt = 0 := by decide
        omega
      exact ⟨fun _ => Or.inr q, fun _ => this⟩
    · rw [show (40 : Int32) = nI 40 from rfl, nI_leI (by omega) (by decide)]
      omega
  have nn : 0 ≤ nI n ↔ ¬ 2 ^ 31 ≤ n := by rw [← n0, Int32.not_lt]
  have BAD : ¬ (k < 4 ∧ L < 3 ∧ n ≤ 40) → K (some (.int (R_sheet k L n))) (sI μ f) := fun q => by
    have kk := hK f (Fr.rf _ _ _)
    unfold N_sheet at kk
    rw [if_neg q] at kk
    exact kk hM
  have B1 : ¬ (k < 4 ∧ L < 3 ∧ (n ≤ 40 ∨ 2 ^ 31 ≤ n)) → K (some (.int (-1))) (sI μ f) := fun q => by
    have := BAD (fun z => q ⟨z.1, z.2.1, Or.inl z.2.2⟩)
    unfold R_sheet at this
    rw [if_neg q] at this
    exact this
  refine Ct_of rfl (Nat.le_of_ble_eq_true rfl) (b_X12_sheet_0 (hK := fun c => B1 (fun z => by have := ek.mp c; omega)) (hK_2 := fun _ c => B1 (fun z => by have := eL.mp c; omega)) (hw12_r0 := hw) (hb := fun c _ _ _ => lk c) (h := fun c1 c2 c3 c4 => ?_) (hK_3 := fun c1 c2 c3 c4 => ?_) (hK_4 := fun c1 c2 c3 => B1 (fun z => c3 (n40.mpr z.2.2))))
  · have z1 := lk c1
    have z2 := lL c2
    rw [n40] at c3
    rw [nn] at c4
    have z3 : n ≤ 40 := by omega
    unfold N_sheet R_sheet at hK
    rw [if_pos ⟨z1, z2, z3⟩, if_pos ⟨z1, z2, Or.inl z3⟩, if_pos z3] at hK
    rw [wi_sI, wi_sI]
    have H : ∀ i, i ≤ 40 → ∀ g, (∀ z, z ≠ y + 14 → z ≠ y + 15 → z ≠ y + 16 → ∀ j, g z j = f z j) → (∀ j, g (y + 14) j = if j = k then nI L else f (y + 14) j) → (∀ j, g (y + 15) j = if j = k then nI n else f (y + 15) j) → (∀ j, g (y + 16) j = if 40 * k ≤ j ∧ j < 40 * k + i then 0 else f (y + 16) j) → G X (Rm (d + 1)) mX12_sheet 56 [(0, .ref y), (1, .int (nI k)), (4, .int (nI i))] [] (sI μ g) 0 0 K := by
      refine dn 40 ?_ ?_
      · intro g h1 h2 h3 h4
        refine b_X12_sheet_56 (hK := fun _ => ?_) (hw12_r0 := hw) (hb := fun q => absurd (le_r _) q) (h := fun q => absurd (le_r _) q)
        refine hK g (fun z hz j => h1 z (by omega) (by omega) (by omega) j) (hM.sht h1 (fun i hi => by unfold S_set; rw [us_n (by omega), us_n (by omega), us_n (by omega)]) (fun r hr => ⟨?_, fun q => ?_⟩) (fun i hi => ?_))
        · show g (y + 14) r = if upd1 (σ 7) k L r < 3 then nI (upd1 (σ 7) k L r) else -4
          rw [h2]
          by_cases c : r = k
          · rw [if_pos c, c, upd1_s, if_pos z2]
          · rw [if_neg c, upd1_n c]; exact (hM.2.2.2.2.2.1 r hr).1
        · show g (y + 15) r = nI (upd1 (σ 8) k n r)
          have q : upd1 (σ 7) k L r < 3 := q
          rw [h3]
          by_cases c : r = k
          · rw [if_pos c, c, upd1_s]
          · rw [if_neg c, upd1_n c]
            rw [upd1_n c] at q
            exact (hM.2.2.2.2.2.1 r hr).2 q
        · show g (y + 16) i = nI (if 40 * k ≤ i ∧ i < 40 * k + 40 then 0 else σ 9 i)
          rw [h4]
          by_cases c : 40 * k ≤ i ∧ i < 40 * k + 40
          · rw [if_pos c, if_pos c]; rfl
          · rw [if_neg c, if_neg c]; exact hM.2.2.2.2.2.2.1 i hi
      · intro i hi ih g h1 h2 h3 h4
        refine b_X12_sheet_56 (hK := fun q => absurd q (ge_c (n := 40) hi (by decide))) (hw12_r0 := hw) (hb := fun _ => by omega) (h := fun _ => ?_)
        rw [wi_sI]
        refine ih _ (fun z a b c j => by rw [u2_x c]; exact h1 z a b c j) (fun j => by rw [u2_x (by omega)]; exact h2 j) (fun j => by rw [u2_x (by omega)]; exact h3 j) (fun j => ?_)
        by_cases c : j = 40 * k + i
        · rw [c, u2_s, if_pos (by omega)]
        · rw [u2_k c, h4]
          by_cases c2 : 40 * k ≤ j ∧ j < 40 * k + i
          · rw [if_pos c2, if_pos (by omega)]
          · rw [if_neg c2, if_neg (by omega)]
    refine H 0 (Nat.zero_le _) _ (fun z a b c j => by rw [u2_x b, u2_x a]) (fun j => ?_) (fun j => ?_) (fun j => ?_)
    · rw [u2_x (by omega)]
      by_cases c : j = k
      · rw [if_pos c, c, u2_s]
      · rw [if_neg c, u2_k c]
    · by_cases c : j = k
      · rw [if_pos c, c, u2_s]
      · rw [if_neg c, u2_k c, u2_x (by omega)]
    · rw [u2_x (by omega), u2_x (by omega), if_neg (by omega)]
  · have z1 := lk c1
    have z2 := lL c2
    rw [n40] at c3
    rw [nn] at c4
    have := BAD (fun z => by omega)
    unfold R_sheet at this
    rw [if_pos ⟨z1, z2, c3⟩, if_neg (by omega)] at this
    exact this
theorem M_lay {k i v : Nat} (hw : WF12 μ y) (hM : MI f y σ) (hO : OKs σ) (hk : k < 2 ^ 32) (hi : i < 2 ^ 32) (hK : ∀ f', Fr f f' y 17 → MI f' y (N_lay σ k i v) → K (some (.int (R_lay σ k i))) (sI μ f')) : Ct X (Rm (d + 1)) mX12_lay [.ref y, .int (nI k), .int (nI i), .int (nI v)] (sI μ f) K := by
  have ek := e_inN (μ := sI μ f) (n := 3) (c := 3) hk (by decide) (by decide)
  have lk : ¬ e_X12_in (sI μ f) ((nI k).toInt64) 0 3 = 0 → k < 4 := fun c => Decidable.byContradiction fun z => c (ek.mpr (by omega))
  unfold N_lay R_lay at hK
  by_cases a : k < 4
  · have o := hO.2.2.2.2.1 k a
    have hl := hM.2.2.2.2.2.1 k a
    by_cases q : σ 7 k < 3
    · have el : iv (sI μ f) (y + 14) k = nI (σ 7 k) := by rw [iv_sI, hl.1, if_pos q]
      have en : iv (sI μ f) (y + 15) k = nI (σ 8 k) := hl.2 q
      have ei := e_inM (μ := sI μ f) (n := σ 8 k) (z := iv (sI μ f) (y + 15) k) hi en (by omega)
      have nn : ¬ iv (sI μ f) (y + 14) k = (-4 : Int32) := fun c => by
        rw [el] at c
        have := (nI_eqU (b := 2 ^ 32 - 4) (by omega) (by decide)).mp (c.trans (by decide))
        omega
      have l0 : (iv (sI μ f) (y + 14) k = 0) ↔ σ 7 k = 0 := by rw [el]; exact nI_z (by omega)
      have l1 : (iv (sI μ f) (y + 14) k = (1 : Int32)) ↔ σ 7 k = 1 := by rw [el]; exact nI_eq (b := 1) (by omega) (by decide)
      have LI : ¬ e_X12_in (sI μ f) ((nI i).toInt64) 0 ((iv (sI μ f) (y + 15) k - 1).toInt64) = 0 → i < σ 8 k := fun c => Decidable.byContradiction fun z => c (ei.mpr z)
      have KK : ∀ w : Int32, i < σ 8 k → w = narI (σ 7 k) (nI v) → K (some (.int 1)) (wi (sI μ f) (y + 16) (40 * k + i) w) := fun w z2 hw' => by
        rw [if_pos ⟨a, q, z2⟩, if_pos a, if_pos q, if_pos z2] at hK
        rw [wi_sI, hw', ← narN_I]
        refine hK _ (fun z hz j => u2_x (by omega)) (hM.sht (fun z _ _ c j => u2_x c) (fun i hi => us_n (by omega)) (fun r hr => ?_) (fun j hj => ?_))
        · rw [u2_x (by omega), u2_x (by omega)]
          exact hM.2.2.2.2.2.1 r hr
        · show _ = nI (upd1 (σ 9) (40 * k + i) (narN (σ 7 k) v) j)
          by_cases c : j = 40 * k + i
          · rw [c, u2_s, upd1_s]
          · rw [u2_k c, upd1_n c]; exact hM.2.2.2.2.2.2.1 j hj
      refine Ct_of rfl (Nat.le_of_ble_eq_true rfl) (b_X12_lay_0 (hw12_r0 := hw) (hb := fun _ => a) (hb_2 := fun _ _ => a) (hb_3 := fun _ _ _ => a) (hb_4 := fun _ _ _ _ => a) (hb_5 := fun _ _ c _ _ => by have := LI c; omega) (hK := fun _ _ c d1 d2 => KK _ (LI c) ?_) (hb_6 := fun _ _ c _ _ => by have := LI c; omega) (hK_2 := fun _ _ c d1 d2 => KK _ (LI c) ?_) (hb_7 := fun _ _ c _ => by have := LI c; omega) (hK_3 := fun _ _ c d1 => KK _ (LI c) ?_) (hK_4 := fun _ _ c => ?_) (hK_5 := fun _ c => absurd c nn) (hK_6 := fun c => absurd a (by have := ek.mp c; omega)))
      · rw [l0] at d1; rw [l1] at d2
        unfold narI
        rw [if_neg d1, if_neg d2]
      · rw [l0] at d1; rw [l1] at d2
        unfold narI
        rw [if_neg d1, if_pos d2, sh16]
      · rw [l0] at d1
        unfold narI
        rw [if_pos d1, sh24]
      · have z := ei.mp c
        rw [if_neg (fun w => z w.2.2), if_pos a, if_pos q, if_neg z] at hK
        exact hK f (Fr.rf _ _ _) hM
    · have el : iv (sI μ f) (y + 14) k = -4 := by rw [iv_sI, hl.1, if_neg q]
      rw [if_neg (fun w => q w.2.1), if_pos a, if_neg q] at hK
      exact Ct_of rfl (Nat.le_of_ble_eq_true rfl) (b_X12_lay_0 (hw12_r0 := hw) (hb := fun _ => a) (hb_2 := fun _ _ => a) (hb_3 := fun _ _ _ => a) (hb_4 := fun _ _ _ _ => a) (hb_5 := fun _ c => absurd el c) (hK := fun _ c => absurd el c) (hb_6 := fun _ c => absurd el c) (hK_2 := fun _ c => absurd el c) (hb_7 := fun _ c => absurd el c) (hK_3 := fun _ c => absurd el c) (hK_4 := fun _ c => absurd el c) (hK_5 := fun _ _ => hK f (Fr.rf _ _ _) hM) (hK_6 := fun c => absurd a (by have := ek.mp c; omega)))
  · rw [if_neg (fun w => a w.1), if_neg a] at hK
    exact Ct_of rfl (Nat.le_of_ble_eq_true rfl) (b_X12_lay_0 (hw12_r0 := hw) (hb := fun c => lk c) (hb_2 := fun c _ => lk c) (hb_3 := fun c _ _ => lk c) (hb_4 := fun c _ _ _ => lk c) (hb_5 := fun c => absurd (lk c) a) (hK := fun c => absurd (lk c) a) (hb_6 := fun c => absurd (lk c) a) (hK_2 := fun c => absurd (lk c) a) (hb_7 := fun c => absurd (lk c) a) (hK_3 := fun c => absurd (lk c) a) (hK_4 := fun c => absurd (lk c) a) (hK_5 := fun c => absurd (lk c) a) (hK_6 := fun _ => hK f (Fr.rf _ _ _) hM))
theorem M_count {w : Nat} (hw : WF12 μ y) (hM : MI f y σ) (hO : OKs σ) (hw2 : w < 2 ^ 32) (hK : K (some (.int (R_count σ w))) (sI μ f)) : Ct X (Rm d) mX12_count [.ref y, .int (nI w)] (sI μ f) K := by
  have h4 := hO.2.2.1.1
  have em : iv (sI μ f) y 2 = nI (σ 5 0) := hM.2.2.1.1
  have o0 := (hO.2.1 0 (by decide)).2
  have o1 := (hO.2.1 1 (by decide)).2
  have k0 : iv (sI μ f) (y + 12) 0 = nI (σ 3 0) := (hM.2.1 0 (by decide)).2
  have k1 : iv (sI μ f) (y + 12) 1 = nI (σ 3 1) := (hM.2.1 1 (by decide)).2
  have z0 : (nI (σ 3 0) = 0) ↔ σ 3 0 = 0 := nI_z (by omega)
  have z1 : (nI (σ 3 1) = 0) ↔ σ 3 1 = 0 := nI_z (by omega)
  have hl := hM.2.2.2.2.2.1 0 (by decide)
  have hle : iv (sI μ f) (y + 14) 0 = if σ 7 0 < 3 then nI (σ 7 0) else -4 := hl.1
  have E : w = 0 → ∀ b, b = σ 3 0 → G X (Rm d) mX12_count 78 [(0, .ref y)] [.int (nI b)] (sI μ f) 0 0 K := fun w0 b hb => by
    subst w0
    have hK : K (some (.int (nI (σ 3 0 + σ 3 1)))) (sI μ f) := hK
    refine b_X12_count_78 (hw12_r0 := hw) (hK := fun q => ?_) (hK_2 := fun q => ?_)
    · rw [k1, z1] at q
      rw [q] at hK
      rw [show nI b + 0 = nI (b + 0) from nI_add b 0, hb]; exact hK
    · rw [k1, z1] at q
      rw [nI_1, hb]
      rw [show σ 3 1 = 1 by omega] at hK; exact hK
  refine Ct_of rfl (Nat.le_of_ble_eq_true rfl) (b_X12_count_0 ?_)
  have H : ∀ i, i ≤ σ 5 0 → G X (Rm d) mX12_count 4 [(0, .ref y), (1, .int (nI w)), (2, .int (nI (smI2 (σ 4) i))), (3, .int (nI i))] [] (sI μ f) 0 0 K := by
    refine dn (σ 5 0) ?_ ?_
    · refine b_X12_count_4 (hw12_r0 := hw) (h := fun _ q q2 => ?_) (h_2 := fun _ q q2 => ?_) (hK := fun _ q => ?_) (hK_2 := fun _ q q2 => ?_) (hK_3 := fun _ q q2 => ?_) (hK_4 := fun _ q => ?_) (hK_5 := fun _ q => ?_) (hb := fun q => absurd (by rw [em]; exact le_r _) q) (h_3 := fun q => absurd (by rw [em]; exact le_r _) q)
      · rw [k0, z0] at q2
        exact E (eqU (n := 0) hw2 (by decide) q) 0 q2.symm
      · rw [k0, z0] at q2
        exact E (eqU (n := 0) hw2 (by decide) q) 1 (by omega)
      · have e := eqU (n := 1) hw2 (by decide) q
        subst e
        rw [iv_sI, hM.2.2.2.1.1]; exact hK
      · have e := eqU (n := 2) hw2 (by decide) q
        subst e
        have z : σ 7 0 < 3 := Decidable.byContradiction fun z => by rw [hle, if_neg z] at q2; exact absurd rfl q2
        have hK : K (some (.int (if σ 7 0 < 3 then nI (σ 8 0) else -4))) (sI μ f) := hK
        rw [if_pos z] at hK
        rw [iv_sI, hl.2 z]; exact hK
      · have e := eqU (n := 2) hw2 (by decide) q
        subst e
        have z : ¬ σ 7 0 < 3 := fun z => by
          rw [hle, if_pos z] at q2
          have := (nI_eqU (b := 2 ^ 32 - 4) (by omega) (by decide)).mp (q2.trans (by decide))
          omega
        have hK : K (some (.int (if σ 7 0 < 3 then nI (σ 8 0) else -4))) (sI μ f) := hK
        rw [if_neg z] at hK; exact hK
      · have e := eqU (n := 3) hw2 (by decide) q
        subst e
        exact hK
      · have e := dfl (n := 3) hw2 q
        rw [R_count_d (by omega)] at hK
        exact hK
    · intro i hi ih
      have nl : ¬ iv (sI μ f) y 2 ≤ nI i := by rw [em]; exact ge_c hi (by omega)
      refine b_X12_count_4 (hw12_r0 := hw) (h := fun q => absurd q nl) (h_2 := fun q => absurd q nl) (hK := fun q => absurd q nl) (hK_2 := fun q => absurd q nl) (hK_3 := fun q => absurd q nl) (hK_4 := fun q => absurd q nl) (hK_5 := fun q => absurd q nl) (hb := fun _ => by omega) (h_3 := fun _ => ?_)
      have e3 : iv (sI μ f) (y + 2) (48 * i + 2) = nI (σ 4 (48 * i + 2)) := hM.2.2.1.2 _ (by omega)
      rw [e3, nI_add]
      exact ih
  exact H 0 (Nat.zero_le _)
end P52
