/-- the room of a method that makes nothing: so many frames below it -/
abbrev Rm (d : Nat) : Room := { frames := d, cells := 0, slots := 0, locals := 64 * d }
def okV (M' : Md) : Prop := Cond.code M'.1 M'.2.1 M'.2.2.1 M'.2.2.2 ∈ TB ∧ Cond.instanceMethod M'.1 ∈ TB ∧ Cond.selects M'.1.cls M'.1 M'.1 ∈ TB ∧ Cond.initialized M'.1.cls ∈ TB ∧ (M'.1.cls ≠ "java/lang/invoke/MethodHandle" ∧ M'.1.cls ≠ "java/lang/invoke/VarHandle")
def okS (M' : Md) : Prop := Cond.code M'.1 M'.2.1 M'.2.2.1 M'.2.2.2 ∈ TB ∧ Cond.static M'.1 ∈ TB ∧ Cond.initialized M'.1.cls ∈ TB ∧ (M'.1.cls ≠ "java/lang/invoke/MethodHandle" ∧ M'.1.cls ≠ "java/lang/invoke/VarHandle")
def okI (M' : Md) : Prop := Cond.code M'.1 M'.2.1 M'.2.2.1 none ∈ TB ∧ Cond.instanceMethod M'.1 ∈ TB ∧ Cond.initialized M'.1.cls ∈ TB ∧ (M'.1.cls ≠ "java/lang/invoke/MethodHandle" ∧ M'.1.cls ≠ "java/lang/invoke/VarHandle") ∧ M'.1.name = "<init>" ∧ M'.2.2.2 = none
theorem TBg {w : Cond} (h : w ∈ TB) : w ∈ TB ∧ ((w.onTables && w.keeps) = true ∨ ∃ ty, w = .arrayClass ty) := ⟨h, TB_good h⟩
theorem good_ws {M' : Md} (h : Cond.code M'.1 M'.2.1 M'.2.2.1 M'.2.2.2 ∈ TB) : GoodIn TB (wsOf M') := fun w hw => by
  rcases List.mem_cons.mp hw with rfl | hw
  · exact TBg h
  · exact TBg hw
/-- the callee's room is in the caller's -/
def ru (R R' : Room) (n cs sl : Nat) : Prop := R'.frames + 1 ≤ R.frames ∧ 8 + (n + 11) + R'.locals ≤ R.locals ∧ cs + R'.cells ≤ R.cells ∧ sl + R'.slots ≤ R.slots
theorem ru_Rm {d n : Nat} (h : n ≤ 45) : ru (Rm (d + 1)) (Rm d) n 0 0 := ⟨Nat.le_refl _, by show 8 + (n + 11) + 64 * d ≤ 64 * (d + 1); omega, Nat.le_refl _, Nat.le_refl _⟩
def rb (R : Room) (cs sl : Nat) : Prop := 1 ≤ R.frames ∧ 64 ≤ R.locals ∧ cs ≤ R.cells ∧ sl ≤ R.slots
theorem rb_Rm {d : Nat} : rb (Rm (d + 1)) 0 0 := ⟨by show 1 ≤ d + 1; omega, by show 64 ≤ 64 * (d + 1); omega, Nat.le_refl _, Nat.le_refl _⟩
section GC
variable {X : cX} {R : Room} {M : Md} {pc : Nat} {L : List (Nat × Value)} {S : List Value} {μ : mM} {cs sl : Nat} {K : Option Value → mM → Prop}
theorem G_stk {S' : List Value} (e : S = S') (h : G X R M pc L S' μ cs sl K) : G X R M pc L S μ cs sl K := e ▸ h
theorem G_iret {v : Int32} (hM : M.2.2.2 = some .int) (hc : cs = R.cells) (hs : sl = R.slots) (hd : decode M.2.1 pc = .ok (.ireturn, 1)) (hK : K (some (.int v)) μ) : G X R M pc L [.int v] μ cs sl K := by
  subst hc
  subst hs
  intro p e s m args below meth c ls H locs hC hL hP hS
  exact W.iret hC.1 hC.2.1 (hC.2.2.1.trans hM) (fun t ht hW => ⟨_, μ, rfl, hK, by rw [ht]; exact hP, hS.F ht⟩) hS.2.2 hd (hlocks := hC.2.2.2.1)
theorem G_zret {v : Int32} {ty : FieldType} (hM : M.2.2.2 = some ty) (hn : narrow ty (.int v) = .int v) (hc : cs = R.cells) (hs : sl = R.slots) (hd : decode M.2.1 pc = .ok (.ireturn, 1)) (hK : K (some (.int v)) μ) : G X R M pc L [.int v] μ cs sl K := by
  subst hc
  subst hs
  intro p e s m args below meth c ls H locs hC hL hP hS
  exact W.zret hC.1 hC.2.1 (hC.2.2.1.trans hM) hn (fun t ht hW => ⟨_, μ, rfl, hK, by rw [ht]; exact hP, hS.F ht⟩) hS.2.2 hd (hlocks := hC.2.2.2.1)
theorem G_vret (hM : M.2.2.2 = none) (hc : cs = R.cells) (hs : sl = R.slots) (hd : decode M.2.1 pc = .ok (.return_, 1)) (hK : K none μ) : G X R M pc L [] μ cs sl K := by
  subst hc
  subst hs
  intro p e s m args below meth c ls H locs hC hL hP hS
  exact W.vret hC.1 hC.2.1 (hC.2.2.1.trans hM) (fun t ht hW => ⟨_, μ, rfl, hK, by rw [ht]; exact hP, hS.F ht⟩) hS.2.2 hd (hlocks := hC.2.2.2.1)
theorem run_back {p : Program} {e : Env} {s : State} {m : MethodId} {args : Array Value} {below : List Frame} {meth : Method} {c : Code} {ls : Array Slot} {H : Heap} {locs : List Loc} {st0 : List Value} {mc ms : Nat} {a : Array Value}
    (hr : va_Run p X.1 e R s m args below meth c H locs cs sl mc ms (F0 m pc ls st0) S (Pst X (fun r μ' => G X R M (pc + 3) L (r.toList ++ S) μ' (cs + mc) (sl + ms) K) a) (fA X)) (hC : Cx X M p s m args meth c) (hL : lv_has ls M.2.2.1 L) (hS : va_S (fA X) s.heap H locs) :
    W p X.1 e R s m args below meth c H locs cs sl (MQ below (Pst X K) args s R.cells R.slots (fA X)) (F0 m pc ls st0) := by
  intro T hT X0
  obtain ⟨v, st₀, t, T', L', h0, X', hL', e1, e2, ⟨r, μ', hv, hK', hP', hz, hk⟩, st⟩ := hr T hT X0
  cases hv
  rw [h0] at hz hk
  obtain ⟨t2, a1, b1⟩ := hK' p e s m args below meth c ls T'.heap (locs ++ L') hC hL (by rw [e1]; exact hP')
    ⟨Nat.le_trans hS.1 (by rw [e1]; exact hz), fun q h1 h2 => by rw [e1, hk q (Nat.lt_of_lt_of_le h1 hS.1) h2]; exact hS.2.1 q h1 h2, fun q hq => by
      rcases List.mem_append.mp hq with h | h
      · exact hS.2.2 q h
      · exact hL' q h⟩ T' rfl X'
  exact ⟨t2, st t2 a1, b1⟩
theorem blind {as : List Value} : FrameBlind (va_Pc as (fun U => Rp X μ U.heap ∧ En X U)) := fun a U g mk q => ⟨q.1, q.2.1, En_blind (U := U) (V := U.calling g mk a) rfl rfl q.2.2⟩
theorem G_callV {index : Nat} {M' : Md} {R' : Room} {b : Nat} (As : List Value) (ci : Nat) (hq : kd μ b = (0, ci)) (hci : cOK ci) (hcn : (cT ci).1 = M'.1.cls) (ho : okV M') (hl : Cond.methodLink M.1.cls index M'.1 ∈ TB) (hn : (parseMethodDescriptor M'.1.desc).map (fun d => d.parameters.length) = some As.length) (hR : ru R R' M'.2.2.1 cs sl) (hSt : (S.map fun v => v.category).sum ≤ 8) (hd : decode M.2.1 pc = .ok (.invokevirtual index, 3))
    (h : Ct X R' M' (.ref b :: As) μ (fun r μ' => G X R M (pc + 3) L (r.toList ++ S) μ' (cs + R'.cells) (sl + R'.slots) K)) : G X R M pc L (As.reverse ++ .ref b :: S) μ cs sl K := by
  intro p e s m args below meth c ls H locs hC hL hP hS
  have hts := hC.2.2.2.2.2.2.2.1
  have hE := hC.2.2.2.2.2.2.2.2
  have hG : GoodIn TB (wsV M.1.cls index M'.1.cls M'.1 (wsOf M')) := fun w hw => by
    simp only [wsV, List.cons_append, List.nil_append, List.mem_cons] at hw
    rcases hw with rfl | rfl | rfl | rfl | hw
    · exact TBg hl
    · exact TBg ho.2.1
    · exact TBg ho.2.2.1
    · exact TBg ho.2.2.2.1
    · exact good_ws ho.1 w hw
  have cw := cwV (R := R) (rm := R') (ret := M'.2.2.2) (bytes := M'.2.1) (maxL := M'.2.2.1) As.length hts hG rfl rfl rfl ⟨rfl, ho.2.2.2.2.1, ho.2.2.2.2.2, hn⟩ ⟨hR.1, hR.2.1⟩
  have hrun := va_runV (As := As) (rest := S) (b := b) (nL := M.2.2.1) (g := F0 m pc ls (As.reverse ++ .ref b :: S)) (e := e) (below := below) (meth := meth) (H := H) (locs := locs) (cells := cs) (slots := sl) ⟨hC.1, hC.2.1, hC.2.2.2.2.1, hC.2.2.2.2.2.1, hts⟩ h cw ⟨blind, (by rw [← hcn]; exact va_recv hE.2.1 (at_obj hP hq) hci.1 (q0 := 0) rfl), fun U hU hW => ⟨rfl, by rw [hU]; exact hP, En_step hE hS hU hW⟩⟩ rfl rfl hL.1 rfl (lv_room hSt) hd ⟨hR.2.2.1, hR.2.2.2⟩
  exact run_back hrun hC hL hS
theorem G_callS {index : Nat} {M' : Md} {R' : Room} (As : List Value) (ho : okS M') (hl : Cond.methodLink M.1.cls index M'.1 ∈ TB) (hn : (parseMethodDescriptor M'.1.desc).map (fun d => d.parameters.length) = some As.length) (hR : ru R R' M'.2.2.1 cs sl) (hSt : (S.map fun v => v.category).sum ≤ 8) (hd : decode M.2.1 pc = .ok (.invokestatic index, 3))
    (h : Ct X R' M' As μ (fun r μ' => G X R M (pc + 3) L (r.toList ++ S) μ' (cs + R'.cells) (sl + R'.slots) K)) : G X R M pc L (As.reverse ++ S) μ cs sl K := by
  intro p e s m args below meth c ls H locs hC hL hP hS
  have hts := hC.2.2.2.2.2.2.2.1
  have hE := hC.2.2.2.2.2.2.2.2
  have hG : GoodIn TB (va_wsS M.1.cls index M'.1 (wsOf M')) := fun w hw => by
    simp only [va_wsS, List.cons_append, List.nil_append, List.mem_cons] at hw
    rcases hw with rfl | rfl | rfl | hw
    · exact TBg hl
    · exact TBg ho.2.1
    · exact TBg ho.2.2.1
    · exact good_ws ho.1 w hw
  have cw := va_cwS (R := R) (rm := R') (ret := M'.2.2.2) (bytes := M'.2.1) (maxL := M'.2.2.1) As.length hts hG rfl rfl rfl ⟨ho.2.2.2.1, ho.2.2.2.2, hn⟩ ⟨hR.1, hR.2.1⟩
  have hrun := va_runS (As := As) (rest := S) (nL := M.2.2.1) (g := F0 m pc ls (As.reverse ++ S)) (e := e) (below := below) (meth := meth) (H := H) (locs := locs) (cells := cs) (slots := sl) ⟨hC.1, hC.2.1, hC.2.2.2.2.1, hC.2.2.2.2.2.1, hts⟩ h cw ⟨blind, fun U hU hW => ⟨rfl, by rw [hU]; exact hP, En_step hE hS hU hW⟩⟩ rfl rfl hL.1 rfl (lv_room hSt) hd ⟨hR.2.2.1, hR.2.2.2⟩
  exact run_back hrun hC hL hS
theorem G_callSN {index : Nat} {host : String} {M' : Md} {R' : Room} (As : List Value) (ho : okS M') (hl : Cond.methodLinkNest M.1.cls index M'.1 host ∈ nestW) (hn : (parseMethodDescriptor M'.1.desc).map (fun d => d.parameters.length) = some As.length) (hR : ru R R' M'.2.2.1 cs sl) (hSt : (S.map fun v => v.category).sum ≤ 8) (hd : decode M.2.1 pc = .ok (.invokestatic index, 3))
    (h : Ct X R' M' As μ (fun r μ' => G X R M (pc + 3) L (r.toList ++ S) μ' (cs + R'.cells) (sl + R'.slots) K)) : G X R M pc L (As.reverse ++ S) μ cs sl K := by
  intro p e s m args below meth c ls H locs hC hL hP hS
  have hts := hC.2.2.2.2.2.2.2.1
  have hE := hC.2.2.2.2.2.2.2.2
  have cw := va_cnB (R := R) (rm := R') (ret := M'.2.2.2) (bytes := M'.2.1) (maxL := M'.2.2.1) As.length hts (good_ws ho.1) rfl rfl rfl (hE.2.2.1 _ hl) (hts _ ho.2.2.1) ⟨ho.2.2.2.1, ho.2.2.2.2, hn⟩ ⟨hR.1, hR.2.1⟩
  have hrun := va_runSN (As := As) (rest := S) (nL := M.2.2.1) (g := F0 m pc ls (As.reverse ++ S)) (e := e) (below := below) (meth := meth) (H := H) (locs := locs) (cells := cs) (slots := sl) ⟨hC.1, hC.2.1, hC.2.2.2.2.1, hC.2.2.2.2.2.1, hts⟩ h ⟨cw, hts _ ho.2.1, trivial⟩ ⟨blind, fun U hU hW => ⟨rfl, by rw [hU]; exact hP, En_step hE hS hU hW⟩⟩ rfl rfl hL.1 rfl (lv_room hSt) hd ⟨hR.2.2.1, hR.2.2.2⟩
  exact run_back hrun hC hL hS
theorem G_callI {index : Nat} {M' : Md} {R' : Room} {b : Nat} (As : List Value) (ho : okI M') (hl : Cond.methodLink M.1.cls index M'.1 ∈ TB) (hn : (parseMethodDescriptor M'.1.desc).map (fun d => d.parameters.length) = some As.length) (hR : ru R R' M'.2.2.1 cs sl) (hSt : (S.map fun v => v.category).sum ≤ 8) (hd : decode M.2.1 pc = .ok (.invokespecial index, 3))
    (h : Ct X R' M' (.ref b :: As) μ (fun r μ' => G X R M (pc + 3) L (r.toList ++ S) μ' (cs + R'.cells) (sl + R'.slots) K)) : G X R M pc L (As.reverse ++ .ref b :: S) μ cs sl K := by
  intro p e s m args below meth c ls H locs hC hL hP hS
  have hts := hC.2.2.2.2.2.2.2.1
  have hE := hC.2.2.2.2.2.2.2.2
  have hcd : Cond.code M'.1 M'.2.1 M'.2.2.1 M'.2.2.2 ∈ TB := by rw [ho.2.2.2.2.2]; exact ho.1
  have cw := cwI (R := R) (rm := R') (bytes := M'.2.1) (maxL := M'.2.2.1) As.length hts (good_ws hcd) (by unfold wsOf; rw [ho.2.2.2.2.2]) rfl rfl (hts _ ho.2.2.1) (hts _ hl) (hts _ ho.2.1) ho.2.2.2.2.1 ⟨ho.2.2.2.1.1, ho.2.2.2.1.2, hn⟩ ⟨hR.1, hR.2.1⟩
  have hrun := va_runI (As := As) (rest := S) (b := b) (nL := M.2.2.1) (g := F0 m pc ls (As.reverse ++ .ref b :: S)) (e := e) (below := below) (meth := meth) (H := H) (locs := locs) (cells := cs) (slots := sl) ⟨hC.1, hC.2.1, hC.2.2.2.2.1, hC.2.2.2.2.2.1, hts⟩ h cw ⟨blind, fun U hU hW => ⟨rfl, by rw [hU]; exact hP, En_step hE hS hU hW⟩⟩ rfl rfl hL.1 rfl (lv_room hSt) hd ⟨hR.2.2.1, hR.2.2.2⟩
  exact run_back hrun hC hL hS
theorem G_callIN {index : Nat} {host : String} {M' : Md} {R' : Room} {b : Nat} (As : List Value) (ho : okI M') (hl : Cond.methodLinkNest M.1.cls index M'.1 host ∈ nestW) (hn : (parseMethodDescriptor M'.1.desc).map (fun d => d.parameters.length) = some As.length) (hR : ru R R' M'.2.2.1 cs sl) (hSt : (S.map fun v => v.category).sum ≤ 8) (hd : decode M.2.1 pc = .ok (.invokespecial index, 3))
    (h : Ct X R' M' (.ref b :: As) μ (fun r μ' => G X R M (pc + 3) L (r.toList ++ S) μ' (cs + R'.cells) (sl + R'.slots) K)) : G X R M pc L (As.reverse ++ .ref b :: S) μ cs sl K := by
  intro p e s m args below meth c ls H locs hC hL hP hS
  have hts := hC.2.2.2.2.2.2.2.1
  have hE := hC.2.2.2.2.2.2.2.2
  have hcd : Cond.code M'.1 M'.2.1 M'.2.2.1 M'.2.2.2 ∈ TB := by rw [ho.2.2.2.2.2]; exact ho.1
  have cw := va_cnB (R := R) (rm := R') (ret := none) (bytes := M'.2.1) (maxL := M'.2.2.1) As.length hts (good_ws hcd) (by unfold wsOf; rw [ho.2.2.2.2.2]) rfl rfl (hE.2.2.1 _ hl) (hts _ ho.2.2.1) ⟨ho.2.2.2.1.1, ho.2.2.2.1.2, hn⟩ ⟨hR.1, hR.2.1⟩
  have hrun := va_runIN (As := As) (rest := S) (b := b) (nL := M.2.2.1) (g := F0 m pc ls (As.reverse ++ .ref b :: S)) (e := e) (below := below) (meth := meth) (H := H) (locs := locs) (cells := cs) (slots := sl) ⟨hC.1, hC.2.1, hC.2.2.2.2.1, hC.2.2.2.2.2.1, hts⟩ h ⟨cw, ho.2.2.2.2.1, hts _ ho.2.1⟩ ⟨blind, fun U hU hW => ⟨rfl, by rw [hU]; exact hP, En_step hE hS hU hW⟩⟩ rfl rfl hL.1 rfl (lv_room hSt) hd ⟨hR.2.2.1, hR.2.2.2⟩
  exact run_back hrun hC hL hS

def mxW : List Cond := [.static Lib.Math.max.name, .initialized "java/lang/Math", .code Lib.Math.max.name Lib.Math.max.code 2 (some .int), .static Lib.Math.min.name, .code Lib.Math.min.name Lib.Math.min.code 2 (some .int), .native arraycopyName, .static arraycopyName, .initialized "java/lang/System", .instanceMethod Lib.objectInit, .code Lib.objectInit ⟨#[0xb1]⟩ 1 none]
set_option maxRecDepth 100000 in
theorem mxW_in : ∀ w ∈ mxW, w ∈ TB := TB_all (by decide +kernel)
theorem G_max {index : Nat} {x y : Int32} (hl : Cond.methodLink M.1.cls index Lib.Math.max.name ∈ TB) (hR : rb R cs sl) (hSt : (S.map fun v => v.category).sum ≤ 8) (hd : decode M.2.1 pc = .ok (.invokestatic index, 3)) (h : G X R M (pc + 3) L (.int (if x < y then y else x) :: S) μ cs sl K) : G X R M pc L (.int y :: .int x :: S) μ cs sl K := by
  intro p e s m args below meth c ls H locs hC hL hP hS
  have hts := hC.2.2.2.2.2.2.2.1
  exact va_mmax hC.1 hC.2.1 (hC.2.2.2.2.1.trans hL.1.symm) hC.2.2.2.2.2.1 (hts _ hl) (hts _ (mxW_in _ (List.mem_of_getElem? (i := 0) rfl))) (hts _ (mxW_in _ (List.mem_of_getElem? (i := 1) rfl))) (hts _ (mxW_in _ (List.mem_of_getElem? (i := 2) rfl))) hR.1 (by have := hR.2.1; omega) hR.2.2.1 hR.2.2.2 hd (h p e s m args below meth c ls H locs hC hL hP hS)
theorem G_min {index : Nat} {x y : Int32} (hl : Cond.methodLink M.1.cls index Lib.Math.min.name ∈ TB) (hR : rb R cs sl) (hSt : (S.map fun v => v.category).sum ≤ 8) (hd : decode M.2.1 pc = .ok (.invokestatic index, 3)) (h : G X R M (pc + 3) L (.int (if y < x then y else x) :: S) μ cs sl K) : G X R M pc L (.int y :: .int x :: S) μ cs sl K := by
  intro p e s m args below meth c ls H locs hC hL hP hS
  have hts := hC.2.2.2.2.2.2.2.1
  exact va_mmin hC.1 hC.2.1 (hC.2.2.2.2.1.trans hL.1.symm) hC.2.2.2.2.2.1 (hts _ hl) (hts _ (mxW_in _ (List.mem_of_getElem? (i := 3) rfl))) (hts _ (mxW_in _ (List.mem_of_getElem? (i := 1) rfl))) (hts _ (mxW_in _ (List.mem_of_getElem? (i := 4) rfl))) hR.1 (by have := hR.2.1; omega) hR.2.2.1 hR.2.2.2 hd (h p e s m args below meth c ls H locs hC hL hP hS)
theorem G_objInit {index a : Nat} (hl : Cond.methodLink M.1.cls index Lib.objectInit ∈ TB) (hR : rb R cs sl) (hSt : (S.map fun v => v.category).sum ≤ 8) (hd : decode M.2.1 pc = .ok (.invokespecial index, 3)) (h : G X R M (pc + 3) L S μ cs sl K) : G X R M pc L (.ref a :: S) μ cs sl K := by
  intro p e s m args below meth c ls H locs hC hL hP hS
  have hts := hC.2.2.2.2.2.2.2.1
  refine W.objInit hC.1 hC.2.1 hC.2.2.2.2.2.1 (hts _ hl) (hts _ (mxW_in _ (List.mem_of_getElem? (i := 8) rfl))) (hts _ (mxW_in _ (List.mem_of_getElem? (i := 9) rfl))) rfl (hL.1.trans hC.2.2.2.2.1.symm) rfl hd hR.1 ?_ (h p e s m args below meth c ls H locs hC hL hP hS)
  have h1 := lv_room (m := m) (pc := pc) (ls := ls) (rest := .ref a :: S) hSt
  have := hR.2.1
  omega
theorem G_alen {a t n : Nat} (hq : kd μ a = (t, n)) (h0 : t ≠ 0) (h8 : t < 8) (hd : decode M.2.1 pc = .ok (.arraylength, 1)) (h : G X R M (pc + 1) L (.int (nI n) :: S) μ cs sl K) : G X R M pc L (.ref a :: S) μ cs sl K := by
  intro p e s m args below meth c ls H locs hC hL hP hS
  have hK := hC.2.2.2.2.2.2.2.2.2.1
  have ht : ∃ ty, (tysOf X.2.2.2.1)[t - 1]? = some (X.2.2.2.1 (t - 1), ty) := by
    rcases (by omega : t = 1 ∨ t = 2 ∨ t = 3 ∨ t = 4 ∨ t = 5 ∨ t = 6 ∨ t = 7) with rfl | rfl | rfl | rfl | rfl | rfl | rfl <;> exact ⟨_, rfl⟩
  obtain ⟨ty, ht⟩ := ht
  by_cases h4 : t < 4
  · exact va_alen (v := nI n) hC.1 hC.2.1 hK (at_arr hP hq h0 h4) 0 (t - 1) rfl ht rfl hd (h p e s m args below meth c ls H locs hC hL hP hS)
  · exact va_alen (v := nI n) hC.1 hC.2.1 hK (at_ref hP hq h4 (by omega)) 0 (t - 1) rfl ht rfl hd (h p e s m args below meth c ls H locs hC hL hP hS)
/-- n ints of a0 from sp on come to a from dp on -/
def cpI (μ : mM) (a0 sp a dp n : Nat) : mM := (μ.1, fun x j => if x = a ∧ dp ≤ j ∧ j < dp + n then μ.2.1 a0 (sp + (j - dp)) else μ.2.1 x j, μ.2.2)
theorem kd_cpI (μ : mM) (a0 sp a dp n x : Nat) : kd (cpI μ a0 sp a dp n) x = kd μ x := rfl
theorem rv_cpI (μ : mM) (a0 sp a dp n x j : Nat) : rv (cpI μ a0 sp a dp n) x j = rv μ x j := rfl
theorem sz_cpI (μ : mM) (a0 sp a dp n : Nat) : sz (cpI μ a0 sp a dp n) = sz μ := rfl
theorem iv_cpI (μ : mM) (a0 sp a dp n x j : Nat) : iv (cpI μ a0 sp a dp n) x j = if x = a ∧ dp ≤ j ∧ j < dp + n then iv μ a0 (sp + (j - dp)) else iv μ x j := rfl
theorem toE_cpI_ne {cA : Nat → ClassId} {μ : mM} {a0 sp a dp n : Nat} {x : Nat} (h : x ≠ a) : toE cA (cpI μ a0 sp a dp n) x = toE cA μ x := by
  have e : iv (cpI μ a0 sp a dp n) x = iv μ x := funext fun j => by rw [iv_cpI, if_neg (fun q => h q.1)]
  have e2 : rv (cpI μ a0 sp a dp n) x = rv μ x := rfl
  have e3 : ∀ c, flds (cpI μ a0 sp a dp n) x c = flds μ x c := fun c => by unfold flds; apply List.map_congr_left; intro j _; unfold fvl; rw [e, e2]
  unfold toE
  rw [kd_cpI, e, e2, e3]
theorem G_copy {index a0 a n0 n1 sp dp n : Nat} {isp idp iN : Int32} (hq0 : kd μ a0 = (1, n0)) (hq1 : kd μ a = (1, n1)) (hsp : isp = nI sp) (hdp : idp = nI dp) (hn : iN = nI n) (h4 : sp + n ≤ n0) (h5 : dp + n ≤ n1) (hl : Cond.methodLink M.1.cls index arraycopyName ∈ TB) (hR : rb R cs sl) (hSt : (S.map fun v => v.category).sum ≤ 8) (hd : decode M.2.1 pc = .ok (.invokestatic index, 3)) (h : G X R M (pc + 3) L S (cpI μ a0 sp a dp n) cs sl K) : G X R M pc L (.int iN :: .int idp :: .ref a :: .int isp :: .ref a0 :: S) μ cs sl K := by
  intro p e s m args below meth c ls H locs hC hL hP hS
  have hts := hC.2.2.2.2.2.2.2.1
  have hK := hC.2.2.2.2.2.2.2.2.2.1
  have hm0 : n0 < 2 ^ 31 := by have := hP.2.2.2.1 a0; rw [hq0] at this; exact this
  have hm1 : n1 < 2 ^ 31 := by have := hP.2.2.2.1 a; rw [hq1] at this; exact this
  subst hsp; subst hdp; subst hn
  intro T hT X0
  have hc0 : H[a0]? = some (vp_cell (X.2.2.2.1 0) (n0, .inl (iv μ a0))) := at_arr hP hq0 (by decide) (by decide) 0 _ rfl
  have hc1 : H[a]? = some (vp_cell (X.2.2.2.1 0) (n1, .inl (iv μ a))) := at_arr hP hq1 (by decide) (by decide) 0 _ rfl
  obtain ⟨-, k0, hk0, cm0, hkk0⟩ := (hK.2 0 _ rfl).1 n0 (fun j => .int (iv μ a0 j))
  obtain ⟨-, k1, hk1, cm1, hkk1⟩ := (hK.2 0 _ rfl).1 n1 (fun j => .int (iv μ a j))
  have csp : (nI sp).toNatClampNeg = sp := nI_clamp (by omega)
  have cdp : (nI dp).toNatClampNeg = dp := nI_clamp (by omega)
  have cn : (nI n).toNatClampNeg = n := nI_clamp (by omega)
  have tsp : (nI sp).toInt = sp := nI_toInt (by omega)
  have tdp : (nI dp).toInt = dp := nI_toInt (by omega)
  have tn : (nI n).toInt = n := nI_toInt (by omega)
  have hro : (nativeFrameWords "java/lang/System" "arraycopy" 5 + 11) ≤ 40 := by decide +kernel
  obtain ⟨vm', X', step⟩ := X0.arraycopy hC.1 hC.2.2.2.2.2.1 (hts _ hl) (hts _ (mxW_in _ (List.mem_of_getElem? (i := 5) rfl))) (hts _ (mxW_in _ (List.mem_of_getElem? (i := 6) rfl))) (hts _ (mxW_in _ (List.mem_of_getElem? (i := 7) rfl))) (src := a0) (dst := a) (cs := vp_cell (X.2.2.2.1 0) (n0, .inl (iv μ a0))) (cd := vp_cell (X.2.2.2.1 0) (n1, .inl (iv μ a))) (srcPos := nI sp) (destPos := nI dp) (n := nI n) (by rw [hT]; exact hc0) (by rw [hT]; exact hc1)
    (fun _ h => by cases h) (fun _ h => by cases h) (fun h => by cases h) (fun h => by cases h) hk0 hk1 hkk0 hkk1 (by simp [refKind]) (nI_pos (by omega)) (nI_pos (by omega)) (nI_pos (by omega))
    (by rw [tsp, tn]; show ¬ _ > ((arrV (X.2.2.2.1 0) n0 (fun j => .int (iv μ a0 j))).slots.size : Int); rw [arrV_size]; omega)
    (by rw [tdp, tn]; show ¬ _ > ((arrV (X.2.2.2.1 0) n1 (fun j => .int (iv μ a j))).slots.size : Int); rw [arrV_size]; omega)
    (fun vm₁ _ i hi => by
      have e : (vp_cell (X.2.2.2.1 0) (n0, .inl (iv μ a0))).slots.getD ((nI sp).toNatClampNeg + i) .null = .int (iv μ a0 (sp + i)) := by
        show (arrV (X.2.2.2.1 0) n0 (fun j => .int (iv μ a0 j))).slots.getD _ _ = _
        rw [cn] at hi
        rw [csp, Array.getD_eq_getD_getElem?, arrV_read _ _ (by omega)]
        rfl
      refine ⟨?_, ?_⟩
      · rw [e]; rfl
      · rw [e]; exact trivial)
    (g := F0 m pc ls (.int (nI n) :: .int (nI dp) :: .ref a :: .int (nI sp) :: .ref a0 :: S)) rfl (by rw [hC.2.2.2.2.1]; exact hL.1) (rest := S) rfl (by rw [hC.2.1]; exact hd) hR.1 (by have := hR.2.1; show 2 * 0 + _ + _ ≤ _; omega)
  have e1 : copied (vp_cell (X.2.2.2.1 0) (n0, .inl (iv μ a0))) (vp_cell (X.2.2.2.1 0) (n1, .inl (iv μ a))) (nI sp) (nI dp) (nI n) = vp_cell (X.2.2.2.1 0) (n1, .inl (va_cpy (iv μ a0) (iv μ a) (nI sp).toNatClampNeg (nI dp).toNatClampNeg (nI n).toNatClampNeg)) := va_copied (fun z => .int z) (X.2.2.2.1 0) (X.2.2.2.1 0) (iv μ a0) (iv μ a) (by rw [csp, cn]; exact h4)
  rw [e1] at X' step
  rw [csp, cdp, cn] at X' step
  have hla : a < H.size := (Array.getElem?_eq_some_iff.mp hc1).1
  generalize hnc : vp_cell (X.2.2.2.1 0) (n1, .inl (va_cpy (iv μ a0) (iv μ a) sp dp n)) = nc at X' step
  have hheap : ((T.setVm vm').setCell a nc).heap = H.setIfInBounds a nc := by rw [← hT]; rfl
  have oq : ∀ q : Nat, q ≠ a → (H.setIfInBounds a nc)[q]? = H[q]? := fun q hq => by simp [Array.getElem?_setIfInBounds, Ne.symm hq]
  have hs1 : (H.setIfInBounds a nc).size = H.size := by simp
  have hin9 : inX X μ a := lw_in hP (by rw [hq1]; exact (by decide : (1 : Nat) ≠ 9))
  have hR1 : Rp X (cpI μ a0 sp a dp n) (H.setIfInBounds a nc) := by
    refine Rp_set hP (fun _ => rfl) rfl hs1 oq (fun _ hx => toE_cpI_ne hx) ?_
    rw [toE_arr (μ := cpI μ a0 sp a dp n) hq1 (by decide) (by decide)]
    show (H.setIfInBounds a nc)[a]? = some (vp_cell _ _)
    rw [Array.getElem?_setIfInBounds, if_pos rfl, if_pos hla, ← hnc]
    have e9 : iv (cpI μ a0 sp a dp n) a = va_cpy (iv μ a0) (iv μ a) sp dp n := funext fun j => by
      rw [iv_cpI]
      unfold va_cpy
      by_cases hj : dp ≤ j ∧ j < dp + n
      · rw [if_pos ⟨rfl, hj⟩, if_pos hj]
      · rw [if_neg (fun q => hj q.2), if_neg hj]
    rw [e9]
  obtain ⟨t, a1, b1⟩ := h p e s m args below meth c ls _ _ hC hL hR1 ⟨by rw [hs1]; exact hS.1, fun q g1 g2 => by
      rw [oq q (fun e => g2 (by rw [e]; exact hin9.1))]
      exact hS.2.1 q g1 g2, fun q hq => by
      rcases List.mem_append.mp hq with h | h
      · exact hS.2.2 q h
      · obtain ⟨z, -, hz⟩ := List.mem_map.mp h
        rw [← hz]
        exact hin9.1⟩ _ hheap X'
  exact ⟨t, step t a1, b1⟩
end GC
