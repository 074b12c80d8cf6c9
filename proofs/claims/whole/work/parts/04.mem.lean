def cT (ci : Nat) : vw_C := vwCl.getD ci (RX0, TX0, 2)
def cOK (ci : Nat) : Prop := vwCl[ci]? = some (cT ci) ∧ fnN ci = (cT ci).2.2 ∧ (∀ w ∈ u_ws (cT ci).1 (cT ci).2.1 (cT ci).2.2, w ∈ TB) ∧ (∀ k, k < (cT ci).2.2 → parseFieldDescriptor ((cT ci).2.1 k).2.2.1 = some (fty ci k)) ∧ (∀ a, a < (cT ci).2.2 → ∀ b, b < (cT ci).2.2 → a ≠ b → ((cT ci).2.1 a).2.1 ≠ ((cT ci).2.1 b).2.1)
theorem TB_all {ws : List Cond} (h : ws.all (fun w => decide (w ∈ lw_tbl) && goodWord w) = true) : ∀ w ∈ ws, w ∈ TB := by
  intro w hw
  have h1 := List.all_eq_true.mp h w hw
  simp only [Bool.and_eq_true, decide_eq_true_eq] at h1
  exact TB_mem h1.1 h1.2
set_option maxRecDepth 100000 in
theorem cok0 : cOK 0 := ⟨rfl, rfl, TB_all (by decide +kernel), tyX0_ok, nmX0⟩
set_option maxRecDepth 100000 in
theorem cok1 : cOK 1 := ⟨rfl, rfl, TB_all (by decide +kernel), tyX1_ok, nmX1⟩
set_option maxRecDepth 100000 in
theorem cok2 : cOK 2 := ⟨rfl, rfl, TB_all (by decide +kernel), tyX2_ok, nmX2⟩
set_option maxRecDepth 100000 in
theorem cok3 : cOK 3 := ⟨rfl, rfl, TB_all (by decide +kernel), tyX3_ok, nmX3⟩
set_option maxRecDepth 100000 in
theorem cok4 : cOK 4 := ⟨rfl, rfl, TB_all (by decide +kernel), tyX4_ok, nmX4⟩
set_option maxRecDepth 100000 in
theorem cok5 : cOK 5 := ⟨rfl, rfl, TB_all (by decide +kernel), tyX5_ok, nmX5⟩
set_option maxRecDepth 100000 in
theorem cok6 : cOK 6 := ⟨rfl, rfl, TB_all (by decide +kernel), tyX6_ok, nmX6⟩
set_option maxRecDepth 100000 in
theorem cok7 : cOK 7 := ⟨rfl, rfl, TB_all (by decide +kernel), tyX7_ok, nmX7⟩
set_option maxRecDepth 100000 in
theorem cok8 : cOK 8 := ⟨rfl, rfl, TB_all (by decide +kernel), tyX8_ok, nmX8⟩
set_option maxRecDepth 100000 in
theorem cok9 : cOK 9 := ⟨rfl, rfl, TB_all (by decide +kernel), tyX9_ok, nmX9⟩
set_option maxRecDepth 100000 in
theorem cok10 : cOK 10 := ⟨rfl, rfl, TB_all (by decide +kernel), tyX10_ok, nmX10⟩
set_option maxRecDepth 100000 in
theorem cok11 : cOK 11 := ⟨rfl, rfl, TB_all (by decide +kernel), tyX11_ok, nmX11⟩
set_option maxRecDepth 100000 in
theorem cok12 : cOK 12 := ⟨rfl, rfl, TB_all (by decide +kernel), tyX12_ok, nmX12⟩
theorem lw_in {X : cX} {μ : mM} {H : Heap} {a : Nat} (hP : Rp X μ H) (h : (kd μ a).1 ≠ 9) : inX X μ a := by
  by_cases hi : inX X μ a
  · exact hi
  · exact absurd (by rw [hP.2.2.1 a hi]) h
theorem toE_obj {cA : Nat → ClassId} {μ : mM} {a ci : Nat} (h : kd μ a = (0, ci)) : toE cA μ a = .inr (ci, flds μ a ci) := by
  unfold toE
  rw [h]
  rfl
theorem toE_arr {cA : Nat → ClassId} {μ : mM} {a t n : Nat} (h : kd μ a = (t, n)) (h1 : t ≠ 0) (h2 : t < 4) : toE cA μ a = .inl (cA (t - 1), n, .inl (iv μ a)) := by
  unfold toE
  rw [h]
  simp only [if_neg h1, if_pos h2]
theorem toE_ref {cA : Nat → ClassId} {μ : mM} {a t n : Nat} (h : kd μ a = (t, n)) (h2 : ¬ t < 4) : toE cA μ a = .inl (cA (t - 1), n, .inr (.inr (.inr (.inr (rv μ a))))) := by
  unfold toE
  rw [h]
  have h1 : t ≠ 0 := by omega
  simp only [if_neg h1, if_neg h2]
theorem at_obj {X : cX} {μ : mM} {H : Heap} {a ci : Nat} (hP : Rp X μ H) (h : kd μ a = (0, ci)) : va_P X.2.2.1 vwCl [(a, .inr (ci, flds μ a ci))] H := by
  have h1 := hP.2.2.2.2 a (lw_in hP (by rw [h]; exact (by decide : (0 : Nat) ≠ 9)))
  rw [toE_obj h] at h1
  intro k q hk
  cases k with
  | zero => cases hk; exact h1
  | succ k => cases hk
theorem at_arr {X : cX} {μ : mM} {H : Heap} {a t n : Nat} (hP : Rp X μ H) (h : kd μ a = (t, n)) (h1 : t ≠ 0) (h2 : t < 4) : va_P X.2.2.1 vwCl [(a, .inl (X.2.2.2.1 (t - 1), n, .inl (iv μ a)))] H := by
  have h3 := hP.2.2.2.2 a (lw_in hP (by rw [h]; show t ≠ 9; omega))
  rw [toE_arr h h1 h2] at h3
  intro k q hk
  cases k with
  | zero => cases hk; exact h3
  | succ k => cases hk
theorem at_ref {X : cX} {μ : mM} {H : Heap} {a t n : Nat} (hP : Rp X μ H) (h : kd μ a = (t, n)) (h2 : ¬ t < 4) (h9 : t ≠ 9) : va_P X.2.2.1 vwCl [(a, .inl (X.2.2.2.1 (t - 1), n, .inr (.inr (.inr (.inr (rv μ a))))))] H := by
  have h3 := hP.2.2.2.2 a (lw_in hP (by rw [h]; exact h9))
  rw [toE_ref h h2] at h3
  intro k q hk
  cases k with
  | zero => cases hk; exact h3
  | succ k => cases hk
theorem flds_len (μ : mM) (a c : Nat) : (flds μ a c).length = fnN c := by simp [flds]
theorem flds_at (μ : mM) (a c k : Nat) (hk : k < fnN c) : (flds μ a c)[k]? = some (fvl μ a c k) := by
  simp [flds, hk]
theorem flds_wi (μ : mM) (a c k : Nat) (v : Int32) (hr : isRf (fty c k) = false) : flds (wi μ a k v) a c = (flds μ a c).set k (.int v) := by
  apply List.ext_getElem?
  intro j
  by_cases hj : j < fnN c
  · rw [flds_at _ _ _ _ hj, List.getElem?_set]
    by_cases hjk : k = j
    · subst hjk
      simp [flds_len, hj, fvl, hr, iv_wi]
    · rw [if_neg hjk, flds_at _ _ _ _ hj]
      simp [fvl, rv_wi, iv_wi, Ne.symm hjk]
  · rw [List.getElem?_eq_none (by rw [flds_len]; omega), List.getElem?_eq_none (by rw [List.length_set, flds_len]; omega)]
theorem flds_wr (μ : mM) (a c k : Nat) (v : Option Nat) (hr : isRf (fty c k) = true) : flds (wr μ a k v) a c = (flds μ a c).set k (va_rf v) := by
  apply List.ext_getElem?
  intro j
  by_cases hj : j < fnN c
  · rw [flds_at _ _ _ _ hj, List.getElem?_set]
    by_cases hjk : k = j
    · subst hjk
      simp [flds_len, hj, fvl, hr, rv_wr]
    · rw [if_neg hjk, flds_at _ _ _ _ hj]
      simp [fvl, rv_wr, iv_wr, Ne.symm hjk]
  · rw [List.getElem?_eq_none (by rw [flds_len]; omega), List.getElem?_eq_none (by rw [List.length_set, flds_len]; omega)]
theorem toE_wi_ne {cA : Nat → ClassId} {μ : mM} {a k : Nat} {v : Int32} {x : Nat} (h : x ≠ a) : toE cA (wi μ a k v) x = toE cA μ x := by
  have e : iv (wi μ a k v) x = iv μ x := funext fun j => by rw [iv_wi, if_neg (fun q => h q.1)]
  have e2 : rv (wi μ a k v) x = rv μ x := rfl
  have e3 : ∀ c, flds (wi μ a k v) x c = flds μ x c := fun c => by unfold flds; apply List.map_congr_left; intro j _; unfold fvl; rw [e, e2]
  unfold toE
  rw [kd_wi, e, e2, e3]
theorem toE_wr_ne {cA : Nat → ClassId} {μ : mM} {a k : Nat} {v : Option Nat} {x : Nat} (h : x ≠ a) : toE cA (wr μ a k v) x = toE cA μ x := by
  have e : rv (wr μ a k v) x = rv μ x := funext fun j => by rw [rv_wr, if_neg (fun q => h q.1)]
  have e2 : iv (wr μ a k v) x = iv μ x := rfl
  have e3 : ∀ c, flds (wr μ a k v) x c = flds μ x c := fun c => by unfold flds; apply List.map_congr_left; intro j _; unfold fvl; rw [e, e2]
  unfold toE
  rw [kd_wr, e, e2, e3]
/-- one cell has changed -/
theorem Rp_set {X : cX} {μ μ' : mM} {H H1 : Heap} {a : Nat} (hP : Rp X μ H) (hk : ∀ x, kd μ' x = kd μ x) (hz : sz μ' = sz μ) (hs : H1.size = H.size) (ho : ∀ q : Nat, q ≠ a → H1[q]? = H[q]?) (hne : ∀ x, x ≠ a → toE X.2.2.2.1 μ' x = toE X.2.2.2.1 μ x) (ha : va_at X.2.2.1 vwCl (a, toE X.2.2.2.1 μ' a) H1) : Rp X μ' H1 := by
  refine ⟨by rw [hs, hz]; exact hP.1, by rw [hz]; exact hP.2.1, fun x hx => ?_, fun x => by rw [hk]; exact hP.2.2.2.1 x, fun x hx => ?_⟩
  · rw [hk]
    exact hP.2.2.1 x (fun q => hx ⟨q.1, by rw [hz]; exact q.2⟩)
  · by_cases hxa : x = a
    · subst hxa; exact ha
    · rw [hne x hxa]
      exact (hP.2.2.2.2 x ⟨hx.1, by rw [← hz]; exact hx.2⟩).kept (ho x hxa)
theorem S_put {X : cX} {μ : mM} {H0 H H1 : Heap} {locs : List Loc} {a k : Nat} (hP : Rp X μ H) (h9 : (kd μ a).1 ≠ 9) (hS : va_S (fA X) H0 H locs) (hs : H1.size = H.size) (ho : ∀ q : Nat, q ≠ a → H1[q]? = H[q]?) : va_S (fA X) H0 H1 (locs ++ [⟨a, k⟩]) := hS.put hs ho (lw_in hP h9).1
theorem vp_of_nI {n j : Nat} (h : j < n) (hn : n < 2 ^ 31) : vp_in (nI j) n := vp_in_nI h hn
section GM
variable {X : cX} {R : Room} {M : Md} {pc : Nat} {L : List (Nat × Value)} {S : List Value} {μ : mM} {cs sl : Nat} {K : Option Value → mM → Prop}
abbrev flW (own : String) (index ci k : Nat) : Cond := .fieldLink own index ((cT ci).2.1 k).1 ((cT ci).2.1 k).2.1 ((cT ci).2.1 k).2.2.1
theorem G_getV {index a : Nat} (ci k : Nat) (hq : kd μ a = (0, ci)) (hci : cOK ci) (hk : k < fnN ci) (hw : flW M.1.cls index ci k ∈ TB) (hd : decode M.2.1 pc = .ok (.getfield index, 3)) (h : G X R M (pc + 3) L (fvl μ a ci k :: S) μ cs sl K) : G X R M pc L (.ref a :: S) μ cs sl K := by
  intro p e s m args below meth c ls H locs hC hL hP hS
  have h1 := hC.2.2.2.2.2.2.2.1
  exact va_get (own := M.1.cls) (ref := ((cT ci).2.1 k).1) (C := (cT ci).1) (T := (cT ci).2.1) (N := (cT ci).2.2) hC.1 hC.2.1 h1 hci.2.2.1 hC.2.2.2.2.2.1 hC.2.2.2.2.2.2.2.2.2.1 (at_obj hP hq) 0 rfl hci.1 k (by rw [← hci.2.1]; exact hk) (h1 _ hw) (fun _ h9 => h9) (flds_at μ a ci k hk) hd (h p e s m args below meth c ls H locs hC hL hP hS)
theorem G_getI {index a : Nat} (ci k : Nat) (hq : kd μ a = (0, ci)) (hci : cOK ci) (hk : k < fnN ci) (hr : isRf (fty ci k) = false) (hw : flW M.1.cls index ci k ∈ TB) (hd : decode M.2.1 pc = .ok (.getfield index, 3)) (h : G X R M (pc + 3) L (.int (iv μ a k) :: S) μ cs sl K) : G X R M pc L (.ref a :: S) μ cs sl K :=
  G_getV ci k hq hci hk hw hd (by unfold fvl; rw [if_neg (by rw [hr]; decide)]; exact h)
theorem G_getR {index a r : Nat} (ci k : Nat) (hq : kd μ a = (0, ci)) (hv : rv μ a k = some r) (hci : cOK ci) (hk : k < fnN ci) (hr : isRf (fty ci k) = true) (hw : flW M.1.cls index ci k ∈ TB) (hd : decode M.2.1 pc = .ok (.getfield index, 3)) (h : G X R M (pc + 3) L (.ref r :: S) μ cs sl K) : G X R M pc L (.ref a :: S) μ cs sl K :=
  G_getV ci k hq hci hk hw hd (by unfold fvl; rw [if_pos hr, hv]; exact h)
theorem put_core {index a : Nat} {v : Value} {μ' : mM} (ci k : Nat) (hq : kd μ a = (0, ci)) (hci : cOK ci) (hk : k < fnN ci) (hfi : ((cT ci).2.1 k).2.2.2 = false ∨ (M.1.name = "<init>" ∧ ((cT ci).2.1 k).1 = M.1.cls)) (hn : narrow (fty ci k) v = v) (hf : fits (fty ci k) v = true) (hw : flW M.1.cls index ci k ∈ TB) (hkd : ∀ x, kd μ' x = kd μ x) (hz : sz μ' = sz μ) (hne : ∀ x, x ≠ a → toE X.2.2.2.1 μ' x = toE X.2.2.2.1 μ x) (ha : flds μ' a ci = (flds μ a ci).set k v) (hd : decode M.2.1 pc = .ok (.putfield index, 3)) (h : G X R M (pc + 3) L S μ' cs sl K) : G X R M pc L (v :: .ref a :: S) μ cs sl K := by
  intro p e s m args below meth c ls H locs hC hL hP hS
  have hts := hC.2.2.2.2.2.2.2.1
  have hK := hC.2.2.2.2.2.2.2.2.2.1
  have hown := hC.2.2.2.2.2.1
  have hk' : k < (cT ci).2.2 := by rw [← hci.2.1]; exact hk
  have hap := va_apart (own := M.1.cls) hts hci.2.2.1 (fty ci) hci.2.2.2.1 hci.2.2.2.2 hK hci.1
  obtain ⟨r, h1, cell, q1, q2, q3, q4⟩ := at_obj hP hq 0 _ rfl
  have hr : r = cT ci := Option.some.inj (h1.symm.trans hci.1)
  subst hr
  obtain ⟨hSl, hfc, kC, hkC, hkind⟩ := hK.1 ci _ hci.1
  obtain ⟨cf, kf, fi, f, hi, hsl⟩ := hSl k hk'
  have hlay := hts _ (hci.2.2.1 _ (u_in_lay hk'))
  have hst := (u_facts hfc hkC (u_lays hts hci.2.2.1 hk') hi).1
  have hin9 : (kd μ a).1 ≠ 9 := by rw [hq]; exact (by decide : (0 : Nat) ≠ 9)
  have fin : ∀ H' : Heap, H'[a]? = some (cell.setSlot f.slot v) → H'.size = H.size → (∀ q, q ≠ a → H'[q]? = H[q]?) → W p X.1 e R s m args below meth c H' (locs ++ [⟨a, f.slot⟩]) cs sl (MQ below (Pst X K) args s R.cells R.slots (fA X)) (F0 m (pc + 3) ls S) := by
    intro H' e1 e2 e3
    rw [hsl] at e1
    refine h p e s m args below meth c ls H' _ hC hL (Rp_set hP hkd hz e2 e3 hne ?_) (S_put hP hin9 hS e2 e3)
    rw [toE_obj (by rw [hkd]; exact hq), ha]
    exact ⟨_, hci.1, t_OB.to (V := updV (vp_V (flds μ a ci)) k v) ⟨_, e1, q2, q3, t_set q4 hap hk' v⟩ (fun j _ => vp_updV_set (by rw [flds_len]; exact hk) v j)⟩
  rcases hfi with hfi | ⟨hin, hdecl⟩
  · unfold u_lay at hlay
    rw [if_neg (by rw [hfi]; decide)] at hlay
    have h6 := u_store hfc hkC hkind hlay hi (hci.2.2.2.1 k hk') hn hf
    exact W.putK hC.1 hC.2.1 (f := f) ⟨hown, hts _ hw, ⟨_, _, _, hi⟩, hst⟩ (by rw [q2]; exact h6) q1 q3 (by rw [hsl]; exact k2_hasslot (q4 k hk')) rfl rfl hd fin
  · have hlay2 : (Cond.lays (cT ci).1 ((cT ci).2.1 k).1 ((cT ci).2.1 k).2.1 ((cT ci).2.1 k).2.2.1).before args s = true ∨ (Cond.laysFinal (cT ci).1 ((cT ci).2.1 k).1 ((cT ci).2.1 k).2.1 ((cT ci).2.1 k).2.2.1).before args s = true := u_lays hts hci.2.2.1 hk'
    have h6 := u_fits hfc hkC hkind hlay2 hi (hci.2.2.2.1 k hk') hn hf
    by_cases hff : ((cT ci).2.1 k).2.2.2 = true
    · unfold u_lay at hlay
      rw [if_pos hff] at hlay
      have hcf : m.cls = cf := by
        obtain ⟨_, _, c', _, _, _, -, -, hf', -, -, -, hown2, -⟩ := Cond.laysFinal_spec hlay
        have e1 : c' = cf := by have := hi.symm.trans hf'; simp at this; exact this.1.symm
        rw [hdecl] at hown2
        rw [← e1]; exact Option.some.inj (hown.symm.trans hown2)
      exact W.putFinK hC.1 hC.2.1 hown (hts _ hw) hi hst hcf (hC.2.2.2.2.2.2.1.trans hin) (by rw [q2]; exact h6) q1 q3 (by rw [hsl]; exact k2_hasslot (q4 k hk')) rfl rfl hd fin
    · unfold u_lay at hlay
      rw [if_neg hff] at hlay
      have h6 := u_store hfc hkC hkind hlay hi (hci.2.2.2.1 k hk') hn hf
      exact W.putK hC.1 hC.2.1 (f := f) ⟨hown, hts _ hw, ⟨_, _, _, hi⟩, hst⟩ (by rw [q2]; exact h6) q1 q3 (by rw [hsl]; exact k2_hasslot (q4 k hk')) rfl rfl hd fin
theorem G_putI {index a : Nat} {v : Int32} (ci k : Nat) (hq : kd μ a = (0, ci)) (hn : narrow (fty ci k) (.int v) = .int v) (hf : fits (fty ci k) (.int v) = true) (hci : cOK ci) (hk : k < fnN ci) (hr : isRf (fty ci k) = false) (hfi : ((cT ci).2.1 k).2.2.2 = false ∨ (M.1.name = "<init>" ∧ ((cT ci).2.1 k).1 = M.1.cls)) (hw : flW M.1.cls index ci k ∈ TB) (hd : decode M.2.1 pc = .ok (.putfield index, 3)) (h : G X R M (pc + 3) L S (wi μ a k v) cs sl K) : G X R M pc L (.int v :: .ref a :: S) μ cs sl K :=
  put_core (μ' := wi μ a k v) ci k hq hci hk hfi hn hf hw (fun _ => rfl) rfl (fun _ hx => toE_wi_ne hx) (flds_wi μ a ci k v hr) hd h
theorem fits_rf {t : FieldType} (h : isRf t = true) (r : Nat) : narrow t (.ref r) = .ref r ∧ fits t (.ref r) = true := by
  cases t <;> first | exact ⟨rfl, rfl⟩ | cases h
theorem G_putR {index a r : Nat} (ci k : Nat) (hq : kd μ a = (0, ci)) (hci : cOK ci) (hk : k < fnN ci) (hr : isRf (fty ci k) = true) (hfi : ((cT ci).2.1 k).2.2.2 = false ∨ (M.1.name = "<init>" ∧ ((cT ci).2.1 k).1 = M.1.cls)) (hw : flW M.1.cls index ci k ∈ TB) (hd : decode M.2.1 pc = .ok (.putfield index, 3)) (h : G X R M (pc + 3) L S (wr μ a k (some r)) cs sl K) : G X R M pc L (.ref r :: .ref a :: S) μ cs sl K :=
  put_core (μ' := wr μ a k (some r)) ci k hq hci hk hfi (fits_rf hr r).1 (fits_rf hr r).2 hw (fun _ => rfl) rfl (fun _ hx => toE_wr_ne hx) (flds_wr μ a ci k (some r) hr) hd h

theorem G_iald {a n : Nat} {i : Int32} (j : Nat) (hq : kd μ a = (1, n)) (hi : i = nI j) (hj : j < n) (hd : decode M.2.1 pc = .ok (.iaload, 1)) (h : G X R M (pc + 1) L (.int (iv μ a j) :: S) μ cs sl K) : G X R M pc L (.int i :: .ref a :: S) μ cs sl K := by
  intro p e s m args below meth c ls H locs hC hL hP hS
  have hn : n < 2 ^ 31 := by have := hP.2.2.2.1 a; rw [hq] at this; exact this
  subst hi
  refine va_iald hC.1 hC.2.1 hC.2.2.2.2.2.2.2.2.2.1 (at_arr hP hq (by decide) (by decide)) 0 0 rfl rfl (vp_in_nI hj hn) hd ?_
  rw [nI_clamp (by omega)]
  exact h p e s m args below meth c ls H locs hC hL hP hS
theorem G_bald {a n : Nat} {i : Int32} (j : Nat) (hq : kd μ a = (2, n)) (hi : i = nI j) (hj : j < n) (hd : decode M.2.1 pc = .ok (.baload, 1)) (h : G X R M (pc + 1) L (.int (iv μ a j) :: S) μ cs sl K) : G X R M pc L (.int i :: .ref a :: S) μ cs sl K := by
  intro p e s m args below meth c ls H locs hC hL hP hS
  have hn : n < 2 ^ 31 := by have := hP.2.2.2.1 a; rw [hq] at this; exact this
  subst hi
  refine va_bald hC.1 hC.2.1 hC.2.2.2.2.2.2.2.2.2.1 (at_arr hP hq (by decide) (by decide)) 0 1 rfl rfl (vp_in_nI hj hn) hd ?_
  rw [nI_clamp (by omega)]
  exact h p e s m args below meth c ls H locs hC hL hP hS
theorem G_zald {a n : Nat} {i : Int32} (j : Nat) (hq : kd μ a = (3, n)) (hi : i = nI j) (hj : j < n) (hd : decode M.2.1 pc = .ok (.baload, 1)) (h : G X R M (pc + 1) L (.int (iv μ a j) :: S) μ cs sl K) : G X R M pc L (.int i :: .ref a :: S) μ cs sl K := by
  intro p e s m args below meth c ls H locs hC hL hP hS
  have hn : n < 2 ^ 31 := by have := hP.2.2.2.1 a; rw [hq] at this; exact this
  subst hi
  refine va_zald hC.1 hC.2.1 hC.2.2.2.2.2.2.2.2.2.1 (at_arr hP hq (by decide) (by decide)) 0 2 rfl rfl (vp_in_nI hj hn) hd ?_
  rw [nI_clamp (by omega)]
  exact h p e s m args below meth c ls H locs hC hL hP hS
theorem G_iast {a n : Nat} {i : Int32} {x : Int32} (j : Nat) (hq : kd μ a = (1, n)) (hi : i = nI j) (hj : j < n)  (hd : decode M.2.1 pc = .ok (.iastore, 1)) (h : G X R M (pc + 1) L S (wi μ a j x) cs sl K) : G X R M pc L (.int x :: .int i :: .ref a :: S) μ cs sl K := by
  intro p e s m args below meth c ls H locs hC hL hP hS
  have hn : n < 2 ^ 31 := by have := hP.2.2.2.1 a; rw [hq] at this; exact this
  subst hi
  have hK := hC.2.2.2.2.2.2.2.2.2.1
  have hin := vp_in_nI hj hn
  refine W.iast hC.1 hC.2.1 (at_arr hP hq (by decide) (by decide) 0 _ rfl) ((hK.2 0 _ rfl).1 n (fun j => .int (iv μ a j))) (fun q => by cases q) (by show ¬ (nI j < 0 ∨ (arrV _ _ _).slots.size ≤ _); rw [arrV_size]; exact hin) rfl rfl hd fun H1 e1 z oq => ?_
  refine h p e s m args below meth c ls H1 _ hC hL (Rp_set hP (fun _ => rfl) rfl z oq (fun _ hx => toE_wi_ne hx) ?_) (S_put hP (by rw [hq]; exact (by decide : (1 : Nat) ≠ 9)) hS z oq)
  rw [toE_arr (μ := wi μ a j x) hq (by decide) (by decide)]
  show H1[a]? = some (vp_cell _ _)
  rw [e1, nI_clamp (by omega)]
  rw [vp_cell_i, vp_cell_i, arrV_store]
  congr 2
  funext q
  by_cases hq2 : q = j
  · subst hq2
    simp [updV, iv_wi]
  · simp [updV, iv_wi, hq2]
theorem G_bast {a n : Nat} {i : Int32} {x v : Int32} (j : Nat) (hq : kd μ a = (2, n)) (hi : i = nI j) (hj : j < n) (hv : vp_nar .byte x = v) (hd : decode M.2.1 pc = .ok (.bastore, 1)) (h : G X R M (pc + 1) L S (wi μ a j v) cs sl K) : G X R M pc L (.int x :: .int i :: .ref a :: S) μ cs sl K := by
  intro p e s m args below meth c ls H locs hC hL hP hS
  have hn : n < 2 ^ 31 := by have := hP.2.2.2.1 a; rw [hq] at this; exact this
  subst hi
  have hK := hC.2.2.2.2.2.2.2.2.2.1
  have hin := vp_in_nI hj hn
  refine W.bast hC.1 hC.2.1 (at_arr hP hq (by decide) (by decide) 0 _ rfl) ((hK.2 1 _ rfl).1 n (fun j => .int (iv μ a j))) (fun q => by cases q) (by show ¬ (nI j < 0 ∨ (arrV _ _ _).slots.size ≤ _); rw [arrV_size]; exact hin) rfl rfl hd fun H1 e1 z oq => ?_
  refine h p e s m args below meth c ls H1 _ hC hL (Rp_set hP (fun _ => rfl) rfl z oq (fun _ hx => toE_wi_ne hx) ?_) (S_put hP (by rw [hq]; exact (by decide : (2 : Nat) ≠ 9)) hS z oq)
  rw [toE_arr (μ := wi μ a j v) hq (by decide) (by decide)]
  show H1[a]? = some (vp_cell _ _)
  rw [e1, nI_clamp (by omega)]
  rw [vp_cell_i, vp_cell_i, arrV_store]
  congr 2
  funext q
  by_cases hq2 : q = j
  · subst hq2
    simp [updV, iv_wi, ← hv, vp_nar]; try rfl
  · simp [updV, iv_wi, hq2]
theorem G_zast {a n : Nat} {i : Int32} {x v : Int32} (j : Nat) (hq : kd μ a = (3, n)) (hi : i = nI j) (hj : j < n) (hv : vp_nar .boolean x = v) (hd : decode M.2.1 pc = .ok (.bastore, 1)) (h : G X R M (pc + 1) L S (wi μ a j v) cs sl K) : G X R M pc L (.int x :: .int i :: .ref a :: S) μ cs sl K := by
  intro p e s m args below meth c ls H locs hC hL hP hS
  have hn : n < 2 ^ 31 := by have := hP.2.2.2.1 a; rw [hq] at this; exact this
  subst hi
  have hK := hC.2.2.2.2.2.2.2.2.2.1
  have hin := vp_in_nI hj hn
  refine W.zast hC.1 hC.2.1 (at_arr hP hq (by decide) (by decide) 0 _ rfl) ((hK.2 2 _ rfl).1 n (fun j => .int (iv μ a j))) (fun q => by cases q) (by show ¬ (nI j < 0 ∨ (arrV _ _ _).slots.size ≤ _); rw [arrV_size]; exact hin) rfl rfl hd fun H1 e1 z oq => ?_
  refine h p e s m args below meth c ls H1 _ hC hL (Rp_set hP (fun _ => rfl) rfl z oq (fun _ hx => toE_wi_ne hx) ?_) (S_put hP (by rw [hq]; exact (by decide : (3 : Nat) ≠ 9)) hS z oq)
  rw [toE_arr (μ := wi μ a j v) hq (by decide) (by decide)]
  show H1[a]? = some (vp_cell _ _)
  rw [e1, nI_clamp (by omega)]
  rw [vp_cell_i, vp_cell_i, arrV_store]
  congr 2
  funext q
  by_cases hq2 : q = j
  · subst hq2
    simp [updV, iv_wi, ← hv, vp_nar]; try rfl
  · simp [updV, iv_wi, hq2]
theorem G_aaldA {a n r : Nat} {i : Int32} (j : Nat) (hq : kd μ a = (4, n)) (hi : i = nI j) (hj : j < n) (hv : rv μ a j = some r) (hd : decode M.2.1 pc = .ok (.aaload, 1)) (h : G X R M (pc + 1) L (.ref r :: S) μ cs sl K) : G X R M pc L (.int i :: .ref a :: S) μ cs sl K := by
  intro p e s m args below meth c ls H locs hC hL hP hS
  have hn : n < 2 ^ 31 := by have := hP.2.2.2.1 a; rw [hq] at this; exact this
  subst hi
  have hK := hC.2.2.2.2.2.2.2.2.2.1
  have hin := vp_in_nI hj hn
  refine W.aald (v := .ref r) hC.1 hC.2.1 (at_ref hP hq (by decide) (by decide) 0 _ rfl) ((hK.2 3 _ rfl).1 n (fun j => va_rf (rv μ a j))) rfl (fun q => by cases q) (by show ¬ (nI j < 0 ∨ (arrV _ _ _).slots.size ≤ _); rw [arrV_size]; exact hin) (by show (arrV _ _ _).slots[_]? = _; rw [nI_clamp (by omega), arrV_read _ _ hj, hv]; rfl) rfl rfl hd (h p e s m args below meth c ls H locs hC hL hP hS)
theorem G_aaldS {a n r : Nat} {i : Int32} (j : Nat) (hq : kd μ a = (5, n)) (hi : i = nI j) (hj : j < n) (hv : rv μ a j = some r) (hd : decode M.2.1 pc = .ok (.aaload, 1)) (h : G X R M (pc + 1) L (.ref r :: S) μ cs sl K) : G X R M pc L (.int i :: .ref a :: S) μ cs sl K := by
  intro p e s m args below meth c ls H locs hC hL hP hS
  have hn : n < 2 ^ 31 := by have := hP.2.2.2.1 a; rw [hq] at this; exact this
  subst hi
  have hK := hC.2.2.2.2.2.2.2.2.2.1
  have hin := vp_in_nI hj hn
  refine W.aald (v := .ref r) hC.1 hC.2.1 (at_ref hP hq (by decide) (by decide) 0 _ rfl) ((hK.2 4 _ rfl).1 n (fun j => va_rf (rv μ a j))) rfl (fun q => by cases q) (by show ¬ (nI j < 0 ∨ (arrV _ _ _).slots.size ≤ _); rw [arrV_size]; exact hin) (by show (arrV _ _ _).slots[_]? = _; rw [nI_clamp (by omega), arrV_read _ _ hj, hv]; rfl) rfl rfl hd (h p e s m args below meth c ls H locs hC hL hP hS)
theorem G_aaldF {a n r : Nat} {i : Int32} (j : Nat) (hq : kd μ a = (6, n)) (hi : i = nI j) (hj : j < n) (hv : rv μ a j = some r) (hd : decode M.2.1 pc = .ok (.aaload, 1)) (h : G X R M (pc + 1) L (.ref r :: S) μ cs sl K) : G X R M pc L (.int i :: .ref a :: S) μ cs sl K := by
  intro p e s m args below meth c ls H locs hC hL hP hS
  have hn : n < 2 ^ 31 := by have := hP.2.2.2.1 a; rw [hq] at this; exact this
  subst hi
  have hK := hC.2.2.2.2.2.2.2.2.2.1
  have hin := vp_in_nI hj hn
  refine W.aald (v := .ref r) hC.1 hC.2.1 (at_ref hP hq (by decide) (by decide) 0 _ rfl) ((hK.2 5 _ rfl).1 n (fun j => va_rf (rv μ a j))) rfl (fun q => by cases q) (by show ¬ (nI j < 0 ∨ (arrV _ _ _).slots.size ≤ _); rw [arrV_size]; exact hin) (by show (arrV _ _ _).slots[_]? = _; rw [nI_clamp (by omega), arrV_read _ _ hj, hv]; rfl) rfl rfl hd (h p e s m args below meth c ls H locs hC hL hP hS)
theorem G_aaldT {a n r : Nat} {i : Int32} (j : Nat) (hq : kd μ a = (7, n)) (hi : i = nI j) (hj : j < n) (hv : rv μ a j = some r) (hd : decode M.2.1 pc = .ok (.aaload, 1)) (h : G X R M (pc + 1) L (.ref r :: S) μ cs sl K) : G X R M pc L (.int i :: .ref a :: S) μ cs sl K := by
  intro p e s m args below meth c ls H locs hC hL hP hS
  have hn : n < 2 ^ 31 := by have := hP.2.2.2.1 a; rw [hq] at this; exact this
  subst hi
  have hK := hC.2.2.2.2.2.2.2.2.2.1
  have hin := vp_in_nI hj hn
  refine W.aald (v := .ref r) hC.1 hC.2.1 (at_ref hP hq (by decide) (by decide) 0 _ rfl) ((hK.2 6 _ rfl).1 n (fun j => va_rf (rv μ a j))) rfl (fun q => by cases q) (by show ¬ (nI j < 0 ∨ (arrV _ _ _).slots.size ≤ _); rw [arrV_size]; exact hin) (by show (arrV _ _ _).slots[_]? = _; rw [nI_clamp (by omega), arrV_read _ _ hj, hv]; rfl) rfl rfl hd (h p e s m args below meth c ls H locs hC hL hP hS)
end GM
