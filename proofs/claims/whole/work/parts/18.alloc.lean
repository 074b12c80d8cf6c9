theorem kd_al (μ : mM) (q : Nat × Nat) (x : Nat) : kd (al μ q) x = if x = sz μ then q else kd μ x := rfl
theorem iv_al (μ : mM) (q : Nat × Nat) (x j : Nat) : iv (al μ q) x j = if x = sz μ then 0 else iv μ x j := rfl
theorem rv_al (μ : mM) (q : Nat × Nat) (x j : Nat) : rv (al μ q) x j = if x = sz μ then none else rv μ x j := rfl
theorem sz_al (μ : mM) (q : Nat × Nat) : sz (al μ q) = sz μ + 1 := rfl
theorem toE_al_ne {cA : Nat → ClassId} {μ : mM} {q : Nat × Nat} {x : Nat} (h : x ≠ sz μ) : toE cA (al μ q) x = toE cA μ x := by
  have e : iv (al μ q) x = iv μ x := funext fun j => by rw [iv_al, if_neg h]
  have e2 : rv (al μ q) x = rv μ x := funext fun j => by rw [rv_al, if_neg h]
  have e3 : ∀ c, flds (al μ q) x c = flds μ x c := fun c => by unfold flds; apply List.map_congr_left; intro j _; unfold fvl; rw [e, e2]
  unfold toE
  rw [kd_al, if_neg h, e, e2, e3]
theorem Rp_al {X : cX} {μ : mM} {H H1 : Heap} {q : Nat × Nat} (hP : Rp X μ H) (hq2 : q.2 < 2 ^ 31) (hs : H1.size = sz μ + 1) (ho : ∀ x : Nat, x < sz μ → H1[x]? = H[x]?) (ha : va_at X.2.2.1 vwCl (sz μ, toE X.2.2.2.1 (al μ q) (sz μ)) H1) : Rp X (al μ q) H1 := by
  refine ⟨hs, Nat.le_succ_of_le hP.2.1, fun x hx => ?_, fun x => ?_, fun x hx => ?_⟩
  · have hne : x ≠ sz μ := fun e => hx ⟨by rw [e]; exact hP.2.1, by rw [e, sz_al]; omega⟩
    rw [kd_al, if_neg hne]
    exact hP.2.2.1 x (fun q => hx ⟨q.1, by rw [sz_al]; have := q.2; omega⟩)
  · rw [kd_al]
    split
    · exact hq2
    · exact hP.2.2.2.1 x
  · by_cases hne : x = sz μ
    · subst hne; exact ha
    · rw [toE_al_ne hne]
      have h2 := hx.2
      rw [sz_al] at h2
      exact (hP.2.2.2.2 x ⟨hx.1, by omega⟩).kept (ho x (by omega))
theorem S_al {X : cX} {μ : mM} {H0 H H1 : Heap} {locs : List Loc} (hP : Rp X μ H) (hS : va_S (fA X) H0 H locs) (hs : H.size ≤ H1.size) (ho : ∀ x : Nat, x < sz μ → H1[x]? = H[x]?) : va_S (fA X) H0 H1 locs :=
  ⟨Nat.le_trans hS.1 hs, fun x h1 h2 => (ho x (by have := hS.1; have := hP.1; omega)).trans (hS.2.1 x h1 h2), hS.2.2⟩
def acW : List Cond := [.arrayClass .int, .arrayClass .byte, .arrayClass .boolean]
set_option maxRecDepth 100000 in
theorem acW_in : ∀ w ∈ acW, w ∈ TB := TB_all (by decide +kernel)
def cDf (ci : Nat) : Prop := ∀ j, j < fnN ci → defaultValue (fty ci j) = if isRf (fty ci j) = true then Value.null else .int 0
section GA
variable {X : cX} {R : Room} {M : Md} {pc : Nat} {L : List (Nat × Value)} {S : List Value} {μ : mM} {cs sl : Nat} {K : Option Value → mM → Prop}
theorem G_new {index : Nat} (ci : Nat) (hci : cOK ci) (hdf : cDf ci) (h31 : ci < 2 ^ 31) (hcl : Cond.classLink M.1.cls index (cT ci).1 ∈ TB) (hins : Cond.instantiable (cT ci).1 (cT ci).2.2 ∈ TB) (hini : Cond.initialized (cT ci).1 ∈ TB) (hc : cs + 1 ≤ R.cells) (hs : sl + fnN ci ≤ R.slots) (hd : decode M.2.1 pc = .ok (.new index, 3)) (h : G X R M (pc + 3) L (.ref (sz μ) :: S) (al μ (0, ci)) (cs + 1) (sl + fnN ci) K) : G X R M pc L S μ cs sl K := by
  intro p e s m args below meth c ls H locs hC hL hP hS
  have hts := hC.2.2.2.2.2.2.2.1
  have hK := hC.2.2.2.2.2.2.2.2.2.1
  have hKn := hK.1 ci _ hci.1
  rw [hci.2.1] at hs h
  refine W.newcK hC.1 hC.2.1 hC.2.2.2.2.2.1 (hts _ hcl) (hts _ hins) (hts _ hini) rfl hd hc hs hKn.2.1 hP.1 fun H1 kC hkC e1 z1 o1 => ?_
  refine h p e s m args below meth c ls H1 locs hC hL (Rp_al hP h31 z1 o1 ?_) (S_al hP hS (by rw [z1, hP.1]; omega) o1)
  have hkd : kd (al μ (0, ci)) (sz μ) = (0, ci) := by rw [kd_al, if_pos rfl]
  rw [toE_obj hkd]
  refine ⟨_, hci.1, (u_born (fty ci) hts hci.2.2.1 hKn hkC e1 hci.2.2.2.1).to (fun j hj => ?_)⟩
  have hj' : j < fnN ci := by rw [hci.2.1]; exact hj
  show defaultValue (fty ci j) = vp_V (flds (al μ (0, ci)) (sz μ) ci) j
  unfold vp_V
  rw [List.getD_eq_getElem?_getD, flds_at _ _ _ _ hj', hdf j hj']
  unfold fvl
  rw [iv_al, rv_al, if_pos rfl, if_pos rfl]
  rfl
theorem G_newI {n : Int32} {N : Nat} (hn : n = nI N) (hN : N ≤ 1000) (hc : cs + 1 ≤ R.cells) (hs : sl + N ≤ R.slots) (hd : decode M.2.1 pc = .ok (.newarray .int, 2)) (h : G X R M (pc + 2) L (.ref (sz μ) :: S) (al μ (1, N)) (cs + 1) (sl + N) K) : G X R M pc L (.int n :: S) μ cs sl K := by
  intro p e s m args below meth c ls H locs hC hL hP hS
  have hts := hC.2.2.2.2.2.2.2.1
  have hK := hC.2.2.2.2.2.2.2.2.2.1
  subst hn
  refine va_newaK hC.1 hC.2.1 (hts _ (acW_in _ (List.mem_of_getElem? (i := 0) rfl))) rfl hd rfl (nI_pos (by omega)) (nI_clamp (by omega)) (by show N * _ ≤ _; simp [componentBytes, newarray.typeOf]; omega) hc hs hP.1 fun H1 cA e1 z1 o1 hAr hNm => ?_
  have ecA : cA = X.2.2.2.1 0 := Option.some.inj (hNm.symm.trans (hK.2 0 _ rfl).2)
  subst ecA
  refine h p e s m args below meth c ls H1 locs hC hL (Rp_al hP (by show N < _; omega) z1 o1 ?_) (S_al hP hS (by rw [z1, hP.1]; omega) o1)
  have hkd : kd (al μ (1, N)) (sz μ) = (1, N) := by rw [kd_al, if_pos rfl]
  rw [toE_arr hkd (by decide) (by decide)]
  show H1[sz μ]? = some (vp_cell _ _)
  rw [e1, vp_cell_i]
  have e9 : iv (al μ (1, N)) (sz μ) = fun _ => 0 := funext fun j => by rw [iv_al, if_pos rfl]
  rw [e9]
  rfl
theorem G_newB {n : Int32} {N : Nat} (hn : n = nI N) (hN : N ≤ 1000) (hc : cs + 1 ≤ R.cells) (hs : sl + N ≤ R.slots) (hd : decode M.2.1 pc = .ok (.newarray .byte, 2)) (h : G X R M (pc + 2) L (.ref (sz μ) :: S) (al μ (2, N)) (cs + 1) (sl + N) K) : G X R M pc L (.int n :: S) μ cs sl K := by
  intro p e s m args below meth c ls H locs hC hL hP hS
  have hts := hC.2.2.2.2.2.2.2.1
  have hK := hC.2.2.2.2.2.2.2.2.2.1
  subst hn
  refine va_newaK hC.1 hC.2.1 (hts _ (acW_in _ (List.mem_of_getElem? (i := 1) rfl))) rfl hd rfl (nI_pos (by omega)) (nI_clamp (by omega)) (by show N * _ ≤ _; simp [componentBytes, newarray.typeOf]; omega) hc hs hP.1 fun H1 cA e1 z1 o1 hAr hNm => ?_
  have ecA : cA = X.2.2.2.1 1 := Option.some.inj (hNm.symm.trans (hK.2 1 _ rfl).2)
  subst ecA
  refine h p e s m args below meth c ls H1 locs hC hL (Rp_al hP (by show N < _; omega) z1 o1 ?_) (S_al hP hS (by rw [z1, hP.1]; omega) o1)
  have hkd : kd (al μ (2, N)) (sz μ) = (2, N) := by rw [kd_al, if_pos rfl]
  rw [toE_arr hkd (by decide) (by decide)]
  show H1[sz μ]? = some (vp_cell _ _)
  rw [e1, vp_cell_i]
  have e9 : iv (al μ (2, N)) (sz μ) = fun _ => 0 := funext fun j => by rw [iv_al, if_pos rfl]
  rw [e9]
  rfl
theorem G_newZ {n : Int32} {N : Nat} (hn : n = nI N) (hN : N ≤ 1000) (hc : cs + 1 ≤ R.cells) (hs : sl + N ≤ R.slots) (hd : decode M.2.1 pc = .ok (.newarray .boolean, 2)) (h : G X R M (pc + 2) L (.ref (sz μ) :: S) (al μ (3, N)) (cs + 1) (sl + N) K) : G X R M pc L (.int n :: S) μ cs sl K := by
  intro p e s m args below meth c ls H locs hC hL hP hS
  have hts := hC.2.2.2.2.2.2.2.1
  have hK := hC.2.2.2.2.2.2.2.2.2.1
  subst hn
  refine va_newaK hC.1 hC.2.1 (hts _ (acW_in _ (List.mem_of_getElem? (i := 2) rfl))) rfl hd rfl (nI_pos (by omega)) (nI_clamp (by omega)) (by show N * _ ≤ _; simp [componentBytes, newarray.typeOf]; omega) hc hs hP.1 fun H1 cA e1 z1 o1 hAr hNm => ?_
  have ecA : cA = X.2.2.2.1 2 := Option.some.inj (hNm.symm.trans (hK.2 2 _ rfl).2)
  subst ecA
  refine h p e s m args below meth c ls H1 locs hC hL (Rp_al hP (by show N < _; omega) z1 o1 ?_) (S_al hP hS (by rw [z1, hP.1]; omega) o1)
  have hkd : kd (al μ (3, N)) (sz μ) = (3, N) := by rw [kd_al, if_pos rfl]
  rw [toE_arr hkd (by decide) (by decide)]
  show H1[sz μ]? = some (vp_cell _ _)
  rw [e1, vp_cell_i]
  have e9 : iv (al μ (3, N)) (sz μ) = fun _ => 0 := funext fun j => by rw [iv_al, if_pos rfl]
  rw [e9]
  rfl
theorem G_newS {index : Nat} {n : Int32} {N : Nat} (hn : n = nI N) (hN : N ≤ 1000) (hcl : Cond.classLink M.1.cls index RX5 ∈ TB) (hc : cs + 1 ≤ R.cells) (hs : sl + N ≤ R.slots) (hd : decode M.2.1 pc = .ok (.anewarray index, 3)) (h : G X R M (pc + 3) L (.ref (sz μ) :: S) (al μ (5, N)) (cs + 1) (sl + N) K) : G X R M pc L (.int n :: S) μ cs sl K := by
  intro p e s m args below meth c ls H locs hC hL hP hS
  have hts := hC.2.2.2.2.2.2.2.1
  have hE := hC.2.2.2.2.2.2.2.2
  have hK := hE.2.1
  subst hn
  have hcl2 : (nI N).toNatClampNeg = N := nI_clamp (by omega)
  refine W.anew hC.1 hC.2.1 hC.2.2.2.2.2.1 (hts _ hcl) (va_AO.use hE.2.2.2.1.1) rfl hd rfl (nI_pos (by omega)) (by rw [hcl2]; omega) hc (by rw [hcl2]; exact hs) fun cA kA comp f1 f2 f3 f4 => ?_
  rw [hcl2]
  obtain ⟨kA', comp', g1, g2, g3, g4⟩ := (hK.2 4 _ rfl).2
  have ecA : cA = X.2.2.2.1 4 := Option.some.inj (f1.symm.trans g4)
  subst ecA
  generalize hH1 : H.push ({ cls := X.2.2.2.1 4, slots := Array.replicate N .null, vm := .none } : Cell) = H1
  have z1 : H1.size = sz μ + 1 := by rw [← hH1, Array.size_push, hP.1]
  have e1 : H1[sz μ]? = some (arrV (X.2.2.2.1 4) N (fun _ => .null)) := by rw [← hH1, ← hP.1, Array.getElem?_push_size, ← arrV_new]
  have o1 : ∀ q : Nat, q < sz μ → H1[q]? = H[q]? := fun q hq => by rw [← hH1, Array.getElem?_push, if_neg (by rw [hP.1]; omega)]
  rw [show H.size = sz μ from hP.1]
  refine h p e s m args below meth c ls H1 locs hC hL (Rp_al hP (by show N < _; omega) z1 o1 ?_) (S_al hP hS (by rw [z1, hP.1]; omega) o1)
  have hkd : kd (al μ (5, N)) (sz μ) = (5, N) := by rw [kd_al, if_pos rfl]
  rw [toE_ref hkd (by decide)]
  show H1[sz μ]? = some (vp_cell _ _)
  rw [e1, vp_cell_q]
  have e9 : rv (al μ (5, N)) (sz μ) = fun _ => none := funext fun j => by rw [rv_al, if_pos rfl]
  rw [e9]
  rfl
theorem G_aastS {a n v : Nat} {i : Int32} (j : Nat) (hq : kd μ a = (5, n)) (hv : kd μ v = (0, 5)) (hi : i = nI j) (hj : j < n) (hd : decode M.2.1 pc = .ok (.aastore, 1)) (h : G X R M (pc + 1) L S (wr μ a j (some v)) cs sl K) : G X R M pc L (.ref v :: .int i :: .ref a :: S) μ cs sl K := by
  intro p e s m args below meth c ls H locs hC hL hP hS
  have hn : n < 2 ^ 31 := by have := hP.2.2.2.1 a; rw [hq] at this; exact this
  subst hi
  have hK := hC.2.2.2.2.2.2.2.2.2.1
  have hcl2 : (nI j).toNatClampNeg = j := nI_clamp (by omega)
  obtain ⟨r', hr', cellV, g1, g2, g3, -⟩ := at_obj hP hv 0 _ rfl
  have hcls := (hK.1 5 _ rfl).2
  obtain ⟨kA, comp, k1, k2, k3, -⟩ := (hK.2 4 _ rfl).2
  have hcomp : comp = X.2.2.1.1 5 := Option.some.inj (k3.symm.trans hcls.1)
  subst hcomp
  obtain ⟨kC, hkC, -⟩ := hcls.2
  refine W.aast hC.1 hC.2.1 (at_ref hP hq (by decide) (by decide) 0 _ rfl) (fun q h => by cases h) (fun h => by cases h) k1 k2 rfl hkC ⟨nI_pos (by omega), by show _ < (arrV _ _ _).slots.size; rw [arrV_size, hcl2]; exact hj⟩ g1 (fun q h => by rw [g3] at h; cases h) (by rw [g2]; exact hkC) (by rw [g2]; exact va_assign hcls) rfl rfl hd fun H1 e1 z oq => ?_
  refine h p e s m args below meth c ls H1 _ hC hL (Rp_set hP (fun _ => rfl) rfl z oq (fun _ hx => toE_wr_ne hx) ?_) (S_put hP (by rw [hq]; exact (by decide : (5 : Nat) ≠ 9)) hS z oq)
  rw [toE_ref (μ := wr μ a j (some v)) hq (by decide)]
  show H1[a]? = some (vp_cell _ _)
  rw [e1, hcl2]
  rw [vp_cell_q, vp_cell_q, arrV_store]
  congr 2
  funext q
  by_cases hq2 : q = j
  · subst hq2
    simp [updV, rv_wr, va_rf]
  · simp [updV, rv_wr, hq2]
theorem G_newF {index : Nat} {n : Int32} {N : Nat} (hn : n = nI N) (hN : N ≤ 1000) (hcl : Cond.classLink M.1.cls index RX3 ∈ TB) (hc : cs + 1 ≤ R.cells) (hs : sl + N ≤ R.slots) (hd : decode M.2.1 pc = .ok (.anewarray index, 3)) (h : G X R M (pc + 3) L (.ref (sz μ) :: S) (al μ (6, N)) (cs + 1) (sl + N) K) : G X R M pc L (.int n :: S) μ cs sl K := by
  intro p e s m args below meth c ls H locs hC hL hP hS
  have hts := hC.2.2.2.2.2.2.2.1
  have hE := hC.2.2.2.2.2.2.2.2
  have hK := hE.2.1
  subst hn
  have hcl2 : (nI N).toNatClampNeg = N := nI_clamp (by omega)
  refine W.anew hC.1 hC.2.1 hC.2.2.2.2.2.1 (hts _ hcl) (va_AO.use hE.2.2.2.1.2.1) rfl hd rfl (nI_pos (by omega)) (by rw [hcl2]; omega) hc (by rw [hcl2]; exact hs) fun cA kA comp f1 f2 f3 f4 => ?_
  rw [hcl2]
  obtain ⟨kA', comp', g1, g2, g3, g4⟩ := (hK.2 5 _ rfl).2
  have ecA : cA = X.2.2.2.1 5 := Option.some.inj (f1.symm.trans g4)
  subst ecA
  generalize hH1 : H.push ({ cls := X.2.2.2.1 5, slots := Array.replicate N .null, vm := .none } : Cell) = H1
  have z1 : H1.size = sz μ + 1 := by rw [← hH1, Array.size_push, hP.1]
  have e1 : H1[sz μ]? = some (arrV (X.2.2.2.1 5) N (fun _ => .null)) := by rw [← hH1, ← hP.1, Array.getElem?_push_size, ← arrV_new]
  have o1 : ∀ q : Nat, q < sz μ → H1[q]? = H[q]? := fun q hq => by rw [← hH1, Array.getElem?_push, if_neg (by rw [hP.1]; omega)]
  rw [show H.size = sz μ from hP.1]
  refine h p e s m args below meth c ls H1 locs hC hL (Rp_al hP (by show N < _; omega) z1 o1 ?_) (S_al hP hS (by rw [z1, hP.1]; omega) o1)
  have hkd : kd (al μ (6, N)) (sz μ) = (6, N) := by rw [kd_al, if_pos rfl]
  rw [toE_ref hkd (by decide)]
  show H1[sz μ]? = some (vp_cell _ _)
  rw [e1, vp_cell_q]
  have e9 : rv (al μ (6, N)) (sz μ) = fun _ => none := funext fun j => by rw [rv_al, if_pos rfl]
  rw [e9]
  rfl
theorem G_aastF {a n v : Nat} {i : Int32} (j : Nat) (hq : kd μ a = (6, n)) (hv : kd μ v = (0, 3)) (hi : i = nI j) (hj : j < n) (hd : decode M.2.1 pc = .ok (.aastore, 1)) (h : G X R M (pc + 1) L S (wr μ a j (some v)) cs sl K) : G X R M pc L (.ref v :: .int i :: .ref a :: S) μ cs sl K := by
  intro p e s m args below meth c ls H locs hC hL hP hS
  have hn : n < 2 ^ 31 := by have := hP.2.2.2.1 a; rw [hq] at this; exact this
  subst hi
  have hK := hC.2.2.2.2.2.2.2.2.2.1
  have hcl2 : (nI j).toNatClampNeg = j := nI_clamp (by omega)
  obtain ⟨r', hr', cellV, g1, g2, g3, -⟩ := at_obj hP hv 0 _ rfl
  have hcls := (hK.1 3 _ rfl).2
  obtain ⟨kA, comp, k1, k2, k3, -⟩ := (hK.2 5 _ rfl).2
  have hcomp : comp = X.2.2.1.1 3 := Option.some.inj (k3.symm.trans hcls.1)
  subst hcomp
  obtain ⟨kC, hkC, -⟩ := hcls.2
  refine W.aast hC.1 hC.2.1 (at_ref hP hq (by decide) (by decide) 0 _ rfl) (fun q h => by cases h) (fun h => by cases h) k1 k2 rfl hkC ⟨nI_pos (by omega), by show _ < (arrV _ _ _).slots.size; rw [arrV_size, hcl2]; exact hj⟩ g1 (fun q h => by rw [g3] at h; cases h) (by rw [g2]; exact hkC) (by rw [g2]; exact va_assign hcls) rfl rfl hd fun H1 e1 z oq => ?_
  refine h p e s m args below meth c ls H1 _ hC hL (Rp_set hP (fun _ => rfl) rfl z oq (fun _ hx => toE_wr_ne hx) ?_) (S_put hP (by rw [hq]; exact (by decide : (6 : Nat) ≠ 9)) hS z oq)
  rw [toE_ref (μ := wr μ a j (some v)) hq (by decide)]
  show H1[a]? = some (vp_cell _ _)
  rw [e1, hcl2]
  rw [vp_cell_q, vp_cell_q, arrV_store]
  congr 2
  funext q
  by_cases hq2 : q = j
  · subst hq2
    simp [updV, rv_wr, va_rf]
  · simp [updV, rv_wr, hq2]
theorem G_newT {index : Nat} {n : Int32} {N : Nat} (hn : n = nI N) (hN : N ≤ 1000) (hcl : Cond.classLink M.1.cls index RX7 ∈ TB) (hc : cs + 1 ≤ R.cells) (hs : sl + N ≤ R.slots) (hd : decode M.2.1 pc = .ok (.anewarray index, 3)) (h : G X R M (pc + 3) L (.ref (sz μ) :: S) (al μ (7, N)) (cs + 1) (sl + N) K) : G X R M pc L (.int n :: S) μ cs sl K := by
  intro p e s m args below meth c ls H locs hC hL hP hS
  have hts := hC.2.2.2.2.2.2.2.1
  have hE := hC.2.2.2.2.2.2.2.2
  have hK := hE.2.1
  subst hn
  have hcl2 : (nI N).toNatClampNeg = N := nI_clamp (by omega)
  refine W.anew hC.1 hC.2.1 hC.2.2.2.2.2.1 (hts _ hcl) (va_AO.use hE.2.2.2.1.2.2.1) rfl hd rfl (nI_pos (by omega)) (by rw [hcl2]; omega) hc (by rw [hcl2]; exact hs) fun cA kA comp f1 f2 f3 f4 => ?_
  rw [hcl2]
  obtain ⟨kA', comp', g1, g2, g3, g4⟩ := (hK.2 6 _ rfl).2
  have ecA : cA = X.2.2.2.1 6 := Option.some.inj (f1.symm.trans g4)
  subst ecA
  generalize hH1 : H.push ({ cls := X.2.2.2.1 6, slots := Array.replicate N .null, vm := .none } : Cell) = H1
  have z1 : H1.size = sz μ + 1 := by rw [← hH1, Array.size_push, hP.1]
  have e1 : H1[sz μ]? = some (arrV (X.2.2.2.1 6) N (fun _ => .null)) := by rw [← hH1, ← hP.1, Array.getElem?_push_size, ← arrV_new]
  have o1 : ∀ q : Nat, q < sz μ → H1[q]? = H[q]? := fun q hq => by rw [← hH1, Array.getElem?_push, if_neg (by rw [hP.1]; omega)]
  rw [show H.size = sz μ from hP.1]
  refine h p e s m args below meth c ls H1 locs hC hL (Rp_al hP (by show N < _; omega) z1 o1 ?_) (S_al hP hS (by rw [z1, hP.1]; omega) o1)
  have hkd : kd (al μ (7, N)) (sz μ) = (7, N) := by rw [kd_al, if_pos rfl]
  rw [toE_ref hkd (by decide)]
  show H1[sz μ]? = some (vp_cell _ _)
  rw [e1, vp_cell_q]
  have e9 : rv (al μ (7, N)) (sz μ) = fun _ => none := funext fun j => by rw [rv_al, if_pos rfl]
  rw [e9]
  rfl
theorem G_aastT {a n v : Nat} {i : Int32} (j : Nat) (hq : kd μ a = (7, n)) (hv : kd μ v = (0, 7)) (hi : i = nI j) (hj : j < n) (hd : decode M.2.1 pc = .ok (.aastore, 1)) (h : G X R M (pc + 1) L S (wr μ a j (some v)) cs sl K) : G X R M pc L (.ref v :: .int i :: .ref a :: S) μ cs sl K := by
  intro p e s m args below meth c ls H locs hC hL hP hS
  have hn : n < 2 ^ 31 := by have := hP.2.2.2.1 a; rw [hq] at this; exact this
  subst hi
  have hK := hC.2.2.2.2.2.2.2.2.2.1
  have hcl2 : (nI j).toNatClampNeg = j := nI_clamp (by omega)
  obtain ⟨r', hr', cellV, g1, g2, g3, -⟩ := at_obj hP hv 0 _ rfl
  have hcls := (hK.1 7 _ rfl).2
  obtain ⟨kA, comp, k1, k2, k3, -⟩ := (hK.2 6 _ rfl).2
  have hcomp : comp = X.2.2.1.1 7 := Option.some.inj (k3.symm.trans hcls.1)
  subst hcomp
  obtain ⟨kC, hkC, -⟩ := hcls.2
  refine W.aast hC.1 hC.2.1 (at_ref hP hq (by decide) (by decide) 0 _ rfl) (fun q h => by cases h) (fun h => by cases h) k1 k2 rfl hkC ⟨nI_pos (by omega), by show _ < (arrV _ _ _).slots.size; rw [arrV_size, hcl2]; exact hj⟩ g1 (fun q h => by rw [g3] at h; cases h) (by rw [g2]; exact hkC) (by rw [g2]; exact va_assign hcls) rfl rfl hd fun H1 e1 z oq => ?_
  refine h p e s m args below meth c ls H1 _ hC hL (Rp_set hP (fun _ => rfl) rfl z oq (fun _ hx => toE_wr_ne hx) ?_) (S_put hP (by rw [hq]; exact (by decide : (7 : Nat) ≠ 9)) hS z oq)
  rw [toE_ref (μ := wr μ a j (some v)) hq (by decide)]
  show H1[a]? = some (vp_cell _ _)
  rw [e1, hcl2]
  rw [vp_cell_q, vp_cell_q, arrV_store]
  congr 2
  funext q
  by_cases hq2 : q = j
  · subst hq2
    simp [updV, rv_wr, va_rf]
  · simp [updV, rv_wr, hq2]
/-- new int[N][K']: an outer array, behind it its rows -/
def mna (μ : mM) (N K' : Nat) : mM := (fun x => if x = μ.2.2.2 then (4, N) else if μ.2.2.2 < x ∧ x ≤ μ.2.2.2 + N then (1, K') else μ.1 x, fun x j => if μ.2.2.2 ≤ x ∧ x ≤ μ.2.2.2 + N then 0 else μ.2.1 x j, fun x j => if x = μ.2.2.2 then (if j < N then some (μ.2.2.2 + 1 + j) else none) else if μ.2.2.2 < x ∧ x ≤ μ.2.2.2 + N then none else μ.2.2.1 x j, μ.2.2.2 + 1 + N)
theorem kd_mna (μ : mM) (N K' x : Nat) : kd (mna μ N K') x = if x = sz μ then (4, N) else if sz μ < x ∧ x ≤ sz μ + N then (1, K') else kd μ x := rfl
theorem iv_mna (μ : mM) (N K' x j : Nat) : iv (mna μ N K') x j = if sz μ ≤ x ∧ x ≤ sz μ + N then 0 else iv μ x j := rfl
theorem rv_mna (μ : mM) (N K' x j : Nat) : rv (mna μ N K') x j = if x = sz μ then (if j < N then some (sz μ + 1 + j) else none) else if sz μ < x ∧ x ≤ sz μ + N then none else rv μ x j := rfl
theorem sz_mna (μ : mM) (N K' : Nat) : sz (mna μ N K') = sz μ + 1 + N := rfl
theorem toE_mna_ne {cA : Nat → ClassId} {μ : mM} {N K' x : Nat} (h : ¬ (sz μ ≤ x ∧ x ≤ sz μ + N)) : toE cA (mna μ N K') x = toE cA μ x := by
  have e : iv (mna μ N K') x = iv μ x := funext fun j => by rw [iv_mna, if_neg h]
  have e2 : rv (mna μ N K') x = rv μ x := funext fun j => by rw [rv_mna, if_neg (by omega), if_neg (by omega)]
  have e3 : ∀ c, flds (mna μ N K') x c = flds μ x c := fun c => by unfold flds; apply List.map_congr_left; intro j _; unfold fvl; rw [e, e2]
  have e0 : kd (mna μ N K') x = kd μ x := by rw [kd_mna, if_neg (by omega), if_neg (by omega)]
  unfold toE
  rw [e0, e, e2, e3]
theorem G_mna {index : Nat} {n k : Int32} {N K' : Nat} (hn : n = nI N) (hk : k = nI K') (hN : N ≤ 1000) (hK0 : K' ≤ 1000) (hcl : Cond.classLink M.1.cls index "[[I" ∈ TB) (hc : cs + (1 + N) ≤ R.cells) (hs : sl + (N + N * K') ≤ R.slots) (hd : decode M.2.1 pc = .ok (.multianewarray index 2, 4)) (h : G X R M (pc + 4) L (.ref (sz μ) :: S) (mna μ N K') (cs + 1 + N) (sl + N + N * K') K) : G X R M pc L (.int k :: .int n :: S) μ cs sl K := by
  intro p e s m args below meth c ls H locs hC hL hP hS
  have hts := hC.2.2.2.2.2.2.2.1
  have hE := hC.2.2.2.2.2.2.2.2
  have hK := hE.2.1
  subst hn; subst hk
  have cN : (nI N).toNatClampNeg = N := nI_clamp (by omega)
  have cK : (nI K').toNatClampNeg = K' := nI_clamp (by omega)
  intro T hT Xs
  obtain ⟨vm₁, cA, comp, -, fA1, fC, hO, -, X', step⟩ := Xs.multianewarray2F hC.1 hC.2.2.2.2.2.1 (ty := .int) (hts _ hcl) (va_AOA.use hE.2.2.2.1.2.2.2) (hts _ (acW_in _ (List.mem_of_getElem? (i := 0) rfl))) (g := F0 m pc ls (.int (nI K') :: .int (nI N) :: S)) rfl (by rw [hC.2.1]; exact hd) rfl (nI_pos (by omega)) (nI_pos (by omega)) (by rw [cN]; omega) (by rw [cK]; simp [componentBytes]; omega) (by rw [cK]; omega) rfl rfl (by rw [cN]; exact hc) (by rw [cN, cK]; exact hs)
  rw [cN, cK] at X' step
  have ecC : comp = X.2.2.2.1 0 := Option.some.inj (fC.symm.trans (hK.2 0 _ rfl).2)
  have ecA : cA = X.2.2.2.1 3 := Option.some.inj (fA1.symm.trans (hK.2 3 _ rfl).2)
  subst ecC; subst ecA
  generalize hF : Jvm.Free.Multi.fill (T.setVm vm₁) (X.2.2.2.1 3) (X.2.2.2.1 0) N K' (defaultValue .int) N = F at X' step
  have hTh : (T.setVm vm₁).heap = H := hT
  obtain ⟨f1, f2, -, -⟩ := Jvm.Free.Multi.fill_facts (T.setVm vm₁) (X.2.2.2.1 3) (X.2.2.2.1 0) N K' (defaultValue .int) N
  rw [hF, hTh] at f1 f2
  have hold : ∀ x : Nat, x < H.size → F.heap[x]? = H[x]? := fun x hx => by
    have := Jvm.Free.Multi.fill_old (T.setVm vm₁) (X.2.2.2.1 3) (X.2.2.2.1 0) N K' (defaultValue .int) (a := x) (by rw [hTh]; exact hx) N
    rw [hF, hTh] at this
    exact this
  have hz : ∀ cy : ClassId, Jvm.Free.Multi.innerC cy K' (defaultValue .int) = vp_cell cy (K', .inl (fun _ => 0)) := fun cy => by
    rw [vp_cell_i]
    exact arrV_new cy K' _
  have hrow : ∀ j : Nat, j < N → F.heap[H.size + 1 + j]? = some (vp_cell (X.2.2.2.1 0) (K', .inl (fun _ => 0))) := fun j hj => by
    have := Jvm.Free.Multi.fill_inner (T.setVm vm₁) (X.2.2.2.1 3) (X.2.2.2.1 0) N K' (defaultValue .int) N j hj
    rw [hF, hTh, hz] at this
    exact this
  have hout : Jvm.Free.Multi.outerC (X.2.2.2.1 3) N H.size N = vp_cell (X.2.2.2.1 3) (N, .inr (.inr (.inr (.inr (fun i => if i < N then some (H.size + 1 + i) else none))))) := by
    rw [vp_cell_q]
    exact vr_outer (X.2.2.2.1 3) N H.size N
  rw [hout] at f2
  have hsz := hP.1
  rw [hsz] at f2 hrow hold f1
  have hR : Rp X (mna μ N K') F.heap := by
    refine ⟨by rw [sz_mna, f1], by rw [sz_mna]; have := hP.2.1; omega, fun x hx => ?_, fun x => ?_, fun x hx => ?_⟩
    · have hb := hP.2.1
      have hne : ¬ (sz μ ≤ x ∧ x ≤ sz μ + N) := fun q => hx ⟨by omega, by rw [sz_mna]; omega⟩
      rw [kd_mna, if_neg (by omega), if_neg (by omega)]
      exact hP.2.2.1 x (fun q => hx ⟨q.1, by rw [sz_mna]; have := q.2; omega⟩)
    · rw [kd_mna]
      split
      · show N < _; omega
      · split
        · show K' < _; omega
        · exact hP.2.2.2.1 x
    · have h2 := hx.2
      rw [sz_mna] at h2
      by_cases h1 : x = sz μ
      · have hkd : kd (mna μ N K') x = (4, N) := by rw [kd_mna, if_pos h1]
        rw [toE_ref hkd (by decide), h1]
        show F.heap[sz μ]? = some (vp_cell _ _)
        rw [f2]
        have e9 : rv (mna μ N K') (sz μ) = fun i => if i < N then some (sz μ + 1 + i) else none := funext fun j => by rw [rv_mna, if_pos rfl]
        rw [e9]
      · by_cases h3 : sz μ < x
        · have hkd : kd (mna μ N K') x = (1, K') := by rw [kd_mna, if_neg h1, if_pos ⟨h3, by omega⟩]
          rw [toE_arr hkd (by decide) (by decide)]
          show F.heap[x]? = some (vp_cell _ _)
          have := hrow (x - (sz μ + 1)) (by omega)
          rw [show sz μ + 1 + (x - (sz μ + 1)) = x by omega] at this
          rw [this]
          have e9 : iv (mna μ N K') x = fun _ => 0 := funext fun j => by rw [iv_mna, if_pos ⟨by omega, by omega⟩]
          rw [e9]
        · rw [toE_mna_ne (by omega)]
          exact (hP.2.2.2.2 x ⟨hx.1, by omega⟩).kept (hold x (by omega))
  have hS1 : va_S (fA X) s.heap F.heap locs := ⟨by have := hS.1; omega, fun x h1 h2 => (hold x (by have := hS.1; omega)).trans (hS.2.1 x h1 h2), hS.2.2⟩
  obtain ⟨t, a1, b1⟩ := h p e s m args below meth c ls F.heap locs hC hL hR hS1 F rfl X'
  refine ⟨t, step t ?_, b1⟩
  have e8 : T.heap.size = sz μ := by rw [hT]; exact hsz
  rw [e8]
  exact a1
end GA
theorem cdf_of {ci : Nat} (h : (List.range (fnN ci)).all (fun j => decide (defaultValue (fty ci j) = if isRf (fty ci j) = true then Value.null else .int 0)) = true) : cDf ci := fun j hj => by
  have := List.all_eq_true.mp h j (List.mem_range.mpr hj)
  simpa using this
theorem cdf0 : cDf 0 := cdf_of (by decide +kernel)
theorem cdf1 : cDf 1 := cdf_of (by decide +kernel)
theorem cdf2 : cDf 2 := cdf_of (by decide +kernel)
theorem cdf3 : cDf 3 := cdf_of (by decide +kernel)
theorem cdf4 : cDf 4 := cdf_of (by decide +kernel)
theorem cdf5 : cDf 5 := cdf_of (by decide +kernel)
theorem cdf6 : cDf 6 := cdf_of (by decide +kernel)
theorem cdf7 : cDf 7 := cdf_of (by decide +kernel)
theorem cdf8 : cDf 8 := cdf_of (by decide +kernel)
theorem cdf9 : cDf 9 := cdf_of (by decide +kernel)
theorem cdf10 : cDf 10 := cdf_of (by decide +kernel)
theorem cdf11 : cDf 11 := cdf_of (by decide +kernel)
theorem cdf12 : cDf 12 := cdf_of (by decide +kernel)
