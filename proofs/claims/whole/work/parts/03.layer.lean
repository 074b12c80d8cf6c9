/-- the words that every method is given -/
def TB : List Cond := lw_tbl.filter goodWord
theorem TB_mem {w : Cond} (h : w ∈ lw_tbl) (hg : goodWord w = true) : w ∈ TB := List.mem_filter.mpr ⟨h, hg⟩
theorem TB_at {w : Cond} (i : Nat) (h : lw_tbl[i]? = some w) (hg : goodWord w = true) : w ∈ TB := TB_mem (List.mem_of_getElem? h) hg
theorem TB_good {w : Cond} (h : w ∈ TB) : (w.onTables && w.keeps) = true ∨ ∃ ty, w = .arrayClass ty := good_of_word (List.mem_filter.mp h).2
/-- a method: its name, its bytes, its locals, its return type -/
abbrev Md : Type := MethodName × ByteArray × Nat × Option FieldType
def wsOf (M : Md) : List Cond := .code M.1 M.2.1 M.2.2.1 M.2.2.2 :: TB
/-- the memory: the kind of each cell, the ints of each, the references of each, the first free address -/
abbrev mM : Type := (Nat → Nat × Nat) × (Nat → Nat → Int32) × (Nat → Nat → Option Nat) × Nat
def kd (μ : mM) (a : Nat) : Nat × Nat := μ.1 a
def iv (μ : mM) (a k : Nat) : Int32 := μ.2.1 a k
def rv (μ : mM) (a k : Nat) : Option Nat := μ.2.2.1 a k
def sz (μ : mM) : Nat := μ.2.2.2
def wi (μ : mM) (a k : Nat) (v : Int32) : mM := (μ.1, fun x j => if x = a ∧ j = k then v else μ.2.1 x j, μ.2.2)
def wr (μ : mM) (a k : Nat) (v : Option Nat) : mM := (μ.1, μ.2.1, fun x j => if x = a ∧ j = k then v else μ.2.2.1 x j, μ.2.2.2)
def al (μ : mM) (q : Nat × Nat) : mM := (fun x => if x = μ.2.2.2 then q else μ.1 x, fun x j => if x = μ.2.2.2 then 0 else μ.2.1 x j, fun x j => if x = μ.2.2.2 then none else μ.2.2.1 x j, μ.2.2.2 + 1)
theorem kd_wi (μ : mM) (a k : Nat) (v : Int32) (x : Nat) : kd (wi μ a k v) x = kd μ x := rfl
theorem rv_wi (μ : mM) (a k : Nat) (v : Int32) (x j : Nat) : rv (wi μ a k v) x j = rv μ x j := rfl
theorem sz_wi (μ : mM) (a k : Nat) (v : Int32) : sz (wi μ a k v) = sz μ := rfl
theorem iv_wi (μ : mM) (a k : Nat) (v : Int32) (x j : Nat) : iv (wi μ a k v) x j = if x = a ∧ j = k then v else iv μ x j := rfl
theorem kd_wr (μ : mM) (a k : Nat) (v : Option Nat) (x : Nat) : kd (wr μ a k v) x = kd μ x := rfl
theorem iv_wr (μ : mM) (a k : Nat) (v : Option Nat) (x j : Nat) : iv (wr μ a k v) x j = iv μ x j := rfl
theorem sz_wr (μ : mM) (a k : Nat) (v : Option Nat) : sz (wr μ a k v) = sz μ := rfl
theorem rv_wr (μ : mM) (a k : Nat) (v : Option Nat) (x j : Nat) : rv (wr μ a k v) x j = if x = a ∧ j = k then v else rv μ x j := rfl
def fty (c : Nat) : Nat → FieldType := match c with
  | 0 => tyX0
  | 1 => tyX1
  | 2 => tyX2
  | 3 => tyX3
  | 4 => tyX4
  | 5 => tyX5
  | 6 => tyX6
  | 7 => tyX7
  | 8 => tyX8
  | 9 => tyX9
  | 10 => tyX10
  | 11 => tyX11
  | _ => tyX12
def fnN (c : Nat) : Nat := [2, 1, 2, 11, 5, 6, 3, 4, 4, 5, 3, 14, 29].getD c 0
def isRf (t : FieldType) : Bool := match t with
  | .object _ => true
  | .array _ => true
  | _ => false
def fvl (μ : mM) (a c k : Nat) : Value := if isRf (fty c k) = true then va_rf (rv μ a k) else .int (iv μ a k)
def flds (μ : mM) (a c : Nat) : List Value := (List.range (fnN c)).map (fvl μ a c)
def toE (cA : Nat → ClassId) (μ : mM) (a : Nat) : va_E :=
  if (kd μ a).1 = 0 then .inr ((kd μ a).2, flds μ a (kd μ a).2)
  else if (kd μ a).1 < 4 then .inl (cA ((kd μ a).1 - 1), (kd μ a).2, .inl (iv μ a))
  else .inl (cA ((kd μ a).1 - 1), (kd μ a).2, .inr (.inr (.inr (.inr (rv μ a)))))
def tysOf (cA : Nat → ClassId) : List (ClassId × FieldType) := [(cA 0, .int), (cA 1, .byte), (cA 2, .boolean), (cA 3, .array .int), (cA 4, .object RX5), (cA 5, .object RX3), (cA 6, .object RX7)]
def nestW : List Cond := [.methodLinkNest RX11 9 yX9_init RX11, .methodLinkNest RX11 18 yX4_init RX11, .methodLinkNest RX10 11 yX5_init RX11, .methodLinkNest RX10 24 yX3_init RX11, .methodLinkNest RX11 46 yX5_init RX11, .methodLinkNest RX11 53 yX1_init RX11, .methodLinkNest RX11 60 yX2_init RX11, .methodLinkNest RX2 11 yX5_init RX11, .methodLinkNest RX11 67 yX6_init RX11, .methodLinkNest RX6 11 yX5_init RX11, .methodLinkNest RX11 74 yX8_init RX11, .methodLinkNest RX11 81 yX0_init RX11, .methodLinkNest RX11 86 yX7_init RX11, .methodLinkNest RX1 15 yX11_isVariable RX11]

def strI : List Nat := [62, 72, 74, 198, 79, 84, 132, 134, 178, 180, 182, 184, 186]
def strT : List String := ["node", "many", "at", "maybe", "next", "ask", "all", "some", "reach", "same", "not", "and", "or"]
def strN : List Nat := [4, 4, 2, 5, 4, 3, 3, 4, 5, 4, 3, 3, 2]
def strB : List (List Int32) := [[110, 111, 100, 101], [109, 97, 110, 121], [97, 116], [109, 97, 121, 98, 101], [110, 101, 120, 116], [97, 115, 107], [97, 108, 108], [115, 111, 109, 101], [114, 101, 97, 99, 104], [115, 97, 109, 101], [110, 111, 116], [97, 110, 100], [111, 114]]
/-- what all methods of a run share: the launch, where our cells begin, the classes, the array classes, where the Strings and their bytes lie -/
abbrev cX : Type := Launch × Nat × va_G × (Nat → ClassId) × (Nat → Nat) × (Nat → Nat) × (Nat × Nat × (Nat → Int32))
def fA (X : cX) : Nat → Prop := fun q => X.2.1 ≤ q
def En (X : cX) (U : State) : Prop := X.2.1 ≤ U.heap.size ∧ va_K X.2.2.1 vwCl (tysOf X.2.2.2.1) U ∧ (∀ w ∈ nestW, va_Nw w U) ∧ (va_AO RX5 U ∧ va_AO RX3 U ∧ va_AO RX7 U ∧ va_AOA .int U) ∧ (∀ i, i < 13 → vk_R RX4 (strI.getD i 0) (strT.getD i "") (X.2.2.2.2.1 i) U) ∧ vk_S 13 strN strB X.2.2.2.2.1 X.2.2.2.2.2.1 (fA X) U U.heap ∧ va_Z "java/lang/String" "COMPACT_STRINGS" "Z" (.int 1) (fA X) U U.heap ∧ va_Zq "jdk/internal/util/Preconditions" "SIOOBE_FORMATTER" "Ljava/util/function/BiFunction;" (fA X) U U.heap ∧ va_X X.2.2.2.2.2.2.1 X.2.2.2.2.2.2.2.1 X.2.2.2.2.2.2.2.2 U U.heap ∧ X.2.2.2.2.2.2.1 < X.2.1
theorem va_AOA.moved {ty : FieldType} {u U : State} (hvm : u.vm.Alike U.vm) (h : va_AOA ty u) : va_AOA ty U := by
  unfold va_AOA Cond.before Cond.holds at h ⊢
  simp only [Cond.value] at h ⊢
  have e1 : U.vm.findClass (FieldType.array ty).toString = u.vm.findClass (FieldType.array ty).toString := by rw [hvm.findClass]
  have e2 : U.vm.findClass ("[" ++ (FieldType.array ty).toString) = u.vm.findClass ("[" ++ (FieldType.array ty).toString) := by rw [hvm.findClass]
  cases hc : u.vm.findClass (FieldType.array ty).toString with
  | none => rw [hc] at h; simp at h
  | some comp =>
    rw [hc, Option.bind_some] at h
    rw [e1, hc, Option.bind_some]
    have hi : (U.vm.classes.findIdx? fun (x : Class) => match x.kind with | .array component _ => component == comp | _ => false) = (u.vm.classes.findIdx? fun (x : Class) => match x.kind with | .array component _ => component == comp | _ => false) := by
      have hb : U.vm.bare = u.vm.bare := by first | exact hvm.bare_eq | exact hvm.bare_eq.symm
      have h0 := va_idx_bare U.vm comp
      rw [hb] at h0
      exact h0.symm.trans (va_idx_bare u.vm comp)
    cases hf : (u.vm.classes.findIdx? fun (x : Class) => match x.kind with | .array component _ => component == comp | _ => false) with
    | none =>
      exfalso
      have h9 := (congrArg (fun o : Option Nat => (o.bind (fun c => (u.vm.classes[c]?).map fun (k : Class) => match k.kind with | .array _ ty' => decide (ty' = FieldType.array ty) && decide (u.vm.findClass ("[" ++ (FieldType.array ty).toString) = some c) | _ => false) == some true)) hf).symm.trans h
      simp at h9
    | some c =>
      have h9 := (congrArg (fun o : Option Nat => (o.bind (fun c => (u.vm.classes[c]?).map fun (k : Class) => match k.kind with | .array _ ty' => decide (ty' = FieldType.array ty) && decide (u.vm.findClass ("[" ++ (FieldType.array ty).toString) = some c) | _ => false) == some true)) hf).symm.trans h
      refine (congrArg (fun o : Option Nat => (o.bind (fun c => (U.vm.classes[c]?).map fun (k : Class) => match k.kind with | .array _ ty' => decide (ty' = FieldType.array ty) && decide (U.vm.findClass ("[" ++ (FieldType.array ty).toString) = some c) | _ => false) == some true)) (hi.trans hf)).trans ?_
      cases hk : u.vm.classes[c]? with
      | none => simp [hk] at h9
      | some k =>
        obtain ⟨k', hk', he⟩ := hvm.2.2 _ _ hk
        have hkk : k'.kind = k.kind := by rw [he]
        simp only [Option.bind_some, hk, hk', Option.map_some, hkk, e2] at h9 ⊢
        exact h9
theorem En_step {X : cX} {s U : State} {H : Heap} {locs : List Loc} (h : En X s) (hS : va_S (fA X) s.heap H locs) (hU : U.heap = H) (hW : s.WarmedH U.vm) : En X U := by
  obtain ⟨h0, h1, h2, ⟨h3, h4, h5, h6⟩, h7, h8, h9, h10, h11, h12⟩ := h
  have ha := hW.alike
  refine ⟨Nat.le_trans h0 (by rw [hU]; exact hS.1), va_K.moved ha h1, fun w hw => ?_, ⟨h3.moved ha, h4.moved ha, h5.moved ha, h6.moved ha⟩, fun i hi => (h7 i hi).warm hW, by rw [hU]; exact (h8.kept hS.2.1).moved ha, by rw [hU]; exact (h9.kept hS.2.1).moved ha, by rw [hU]; exact (h10.kept hS.2.1).moved ha, by rw [hU]; exact (h11.kept (hS.2.1 _ (by omega) (fun q => by have : X.2.1 ≤ _ := q; omega))).moved ha, h12⟩
  have h := h2 w hw
  simp only [nestW, List.mem_cons, List.not_mem_nil, or_false] at hw
  rcases hw with rfl | rfl | rfl | rfl | rfl | rfl | rfl | rfl | rfl | rfl | rfl | rfl | rfl | rfl <;> exact va_Nw.warmM hW h
theorem En_blind {X : cX} {U V : State} (hv : V.vm = U.vm) (hh : V.heap = U.heap) (h : En X U) : En X V := by
  obtain ⟨h0, h1, h2, ⟨h3, h4, h5, h6⟩, h7, h8, h9, h10, h11, h12⟩ := h
  have ha : U.vm.Alike V.vm := by rw [hv]; exact Vm.Alike.refl _
  refine ⟨by rw [hh]; exact h0, va_K.moved ha h1, fun w hw => ?_, ⟨h3.moved ha, h4.moved ha, h5.moved ha, h6.moved ha⟩, fun i hi => (h7 i hi).same hv, by rw [hh]; exact h8.moved ha, by rw [hh]; exact h9.moved ha, by rw [hh]; exact h10.moved ha, by rw [hh]; exact h11.moved ha, h12⟩
  have h := h2 w hw
  simp only [nestW, List.mem_cons, List.not_mem_nil, or_false] at hw
  rcases hw with rfl | rfl | rfl | rfl | rfl | rfl | rfl | rfl | rfl | rfl | rfl | rfl | rfl | rfl <;> exact va_Nw.same rfl hv.symm h
/-- a cell of ours -/
def inX (X : cX) (μ : mM) (a : Nat) : Prop := X.2.1 ≤ a ∧ a < sz μ
def Rp (X : cX) (μ : mM) (H : Heap) : Prop := H.size = sz μ ∧ X.2.1 ≤ sz μ ∧ (∀ a, ¬ inX X μ a → kd μ a = (9, 0)) ∧ (∀ a, (kd μ a).2 < 2 ^ 31) ∧ ∀ a, inX X μ a → va_at X.2.2.1 vwCl (a, toE X.2.2.2.1 μ a) H
def Pst (X : cX) (K : Option Value → mM → Prop) : Array Value → State → Outcome → State → Prop := fun _ st o t => ∃ (r : Option Value) (μ : mM), o = .returned r ∧ K r μ ∧ Rp X μ t.heap ∧ va_F (fA X) st t
def Cx (X : cX) (M : Md) (p : Program) (s : State) (m : MethodId) (args : Array Value) (meth : Method) (c : Code) : Prop := p.tables.exec = Jvm.exec ∧ c.code = M.2.1 ∧ meth.sig.returnType = M.2.2.2 ∧ meth.locks = false ∧ c.maxLocals = M.2.2.1 ∧ s.vm.findClass M.1.cls = some m.cls ∧ meth.name = M.1.name ∧ (∀ w ∈ TB, w.before args s = true) ∧ En X s
/-- the frame of method M at pc, with the locals L, the stack S and the memory μ comes to its end with K -/
def G (X : cX) (R : Room) (M : Md) (pc : Nat) (L : List (Nat × Value)) (S : List Value) (μ : mM) (cs sl : Nat) (K : Option Value → mM → Prop) : Prop :=
  ∀ (p : Program) (e : Env) (s : State) (m : MethodId) (args : Array Value) (below : List Frame) (meth : Method) (c : Code) (ls : Array Slot) (H : Heap) (locs : List Loc), Cx X M p s m args meth c → lv_has ls M.2.2.1 L → Rp X μ H → va_S (fA X) s.heap H locs →
    W p X.1 e R s m args below meth c H locs cs sl (MQ below (Pst X K) args s R.cells R.slots (fA X)) (F0 m pc ls S)
/-- a call of method M with the arguments as and the memory μ comes back with K -/
def Ct (X : cX) (R : Room) (M : Md) (as : List Value) (μ : mM) (K : Option Value → mM → Prop) : Prop := Met X.1 M.1 (wsOf M) R (va_Pc as (fun U => Rp X μ U.heap ∧ En X U)) (Pst X K) R.cells R.slots (fA X)
theorem Ct_of {X : cX} {R : Room} {M : Md} {as : List Value} {μ : mM} {K : Option Value → mM → Prop} (hy : plainName M.1.cls = true) (hlen : (lg_sl as).length ≤ M.2.2.1) (h : G X R M 0 (lv_args 0 as) [] μ 0 0 K) : Ct X R M as μ K := by
  refine Met.ofW (cc := M.2.1) (maxL := M.2.2.1) (ret := M.2.2.2) hy rfl ?_
  intro p e s m args below meth c s₁ B hml hv
  obtain ⟨rfl, hR, hE⟩ := hv
  have hl := lv_entry as (n := M.2.2.1) hlen
  rw [lg_entry_eq]
  exact h p e s m _ below meth c _ s.heap [] ⟨B.exec, B.bytes, B.returns, B.notSynchronized, hml, findClass_of_methodNamed B.named, (name_of_methodNamed B.named B.method).1, fun w hw => atoms_spec (ws := wsOf M) B.pre w (List.mem_cons_of_mem _ hw), hE⟩ hl hR va_S.rf
section GR
variable {X : cX} {R : Room} {M : Md} {pc : Nat} {L : List (Nat × Value)} {S : List Value} {μ : mM} {cs sl : Nat} {K : Option Value → mM → Prop}
/-- fewer locals, by their places -/
theorem G_sub {L' : List (Nat × Value)} (ks : List Nat) (hl : lv_pick L ks = L') (h : G X R M pc L' S μ cs sl K) : G X R M pc L S μ cs sl K :=
  fun p e s m args below meth c ls H locs hC hL hP hS => h p e s m args below meth c ls H locs hC (lv_sub hL ks hl) hP hS
theorem G_eq {pc' : Nat} (e : pc = pc') (h : G X R M pc' L S μ cs sl K) : G X R M pc L S μ cs sl K := e ▸ h

theorem G_iconst {n : Int} {v : Int32} (hd : decode M.2.1 pc = .ok (.iconst n, 1)) (hv : Int32.ofInt n = v) (h : G X R M (pc + 1) L (.int v :: S) μ cs sl K) : G X R M pc L S μ cs sl K :=
  fun p e s m args below meth c ls H locs hC hL hP hS => lv_iconst hC.1 hC.2.1 hd hv (h p e s m args below meth c ls H locs hC hL hP hS)
theorem G_bipush {n : Int} {v : Int32} (hd : decode M.2.1 pc = .ok (.bipush n, 2)) (hv : (Int8.ofInt n).toInt32 = v) (h : G X R M (pc + 2) L (.int v :: S) μ cs sl K) : G X R M pc L S μ cs sl K :=
  fun p e s m args below meth c ls H locs hC hL hP hS => lv_bipush hC.1 hC.2.1 hd hv (h p e s m args below meth c ls H locs hC hL hP hS)
theorem G_sipush {n : Int} {v : Int32} (hd : decode M.2.1 pc = .ok (.sipush n, 3)) (hv : (Int16.ofInt n).toInt32 = v) (h : G X R M (pc + 3) L (.int v :: S) μ cs sl K) : G X R M pc L S μ cs sl K :=
  fun p e s m args below meth c ls H locs hC hL hP hS => lv_sipush hC.1 hC.2.1 hd hv (h p e s m args below meth c ls H locs hC hL hP hS)
theorem G_lconst {n : Fin 2} {v : Int64} (hd : decode M.2.1 pc = .ok (.lconst n, 1)) (hv : Int64.ofNat (n : Nat) = v) (h : G X R M (pc + 1) L (.long v :: S) μ cs sl K) : G X R M pc L S μ cs sl K :=
  fun p e s m args below meth c ls H locs hC hL hP hS => lv_lconst hC.1 hC.2.1 hd hv (h p e s m args below meth c ls H locs hC hL hP hS)
theorem G_iload_n {k : Fin 4} {i : Nat} {x : Int32} (hd : decode M.2.1 pc = .ok (.iload_n k, 1)) (hi : (k : Nat) = i) (j : Nat) (hj : L[j]? = some (i, .int x)) (h : G X R M (pc + 1) L (.int x :: S) μ cs sl K) : G X R M pc L S μ cs sl K :=
  fun p e s m args below meth c ls H locs hC hL hP hS => lv_iload_n hC.1 hC.2.1 hd hi (lv_at hL j hj) (h p e s m args below meth c ls H locs hC hL hP hS)
theorem G_iload {i : Nat} {x : Int32} (hd : decode M.2.1 pc = .ok (.iload i, 2)) (j : Nat) (hj : L[j]? = some (i, .int x)) (h : G X R M (pc + 2) L (.int x :: S) μ cs sl K) : G X R M pc L S μ cs sl K :=
  fun p e s m args below meth c ls H locs hC hL hP hS => lv_iload hC.1 hC.2.1 hd (lv_at hL j hj) (h p e s m args below meth c ls H locs hC hL hP hS)
theorem G_lload_n {k : Fin 4} {i : Nat} {x : Int64} (hd : decode M.2.1 pc = .ok (.lload_n k, 1)) (hi : (k : Nat) = i) (j : Nat) (hj : L[j]? = some (i, .long x)) (h : G X R M (pc + 1) L (.long x :: S) μ cs sl K) : G X R M pc L S μ cs sl K :=
  fun p e s m args below meth c ls H locs hC hL hP hS => lv_lload_n hC.1 hC.2.1 hd hi (lv_at hL j hj) (h p e s m args below meth c ls H locs hC hL hP hS)
theorem G_lload {i : Nat} {x : Int64} (hd : decode M.2.1 pc = .ok (.lload i, 2)) (j : Nat) (hj : L[j]? = some (i, .long x)) (h : G X R M (pc + 2) L (.long x :: S) μ cs sl K) : G X R M pc L S μ cs sl K :=
  fun p e s m args below meth c ls H locs hC hL hP hS => lv_lload hC.1 hC.2.1 hd (lv_at hL j hj) (h p e s m args below meth c ls H locs hC hL hP hS)
theorem G_aload_n {k : Fin 4} {i : Nat} {x : Nat} (hd : decode M.2.1 pc = .ok (.aload_n k, 1)) (hi : (k : Nat) = i) (j : Nat) (hj : L[j]? = some (i, .ref x)) (h : G X R M (pc + 1) L (.ref x :: S) μ cs sl K) : G X R M pc L S μ cs sl K :=
  fun p e s m args below meth c ls H locs hC hL hP hS => lv_aload_n hC.1 hC.2.1 hd hi (lv_at hL j hj) (h p e s m args below meth c ls H locs hC hL hP hS)
theorem G_aload {i : Nat} {x : Nat} (hd : decode M.2.1 pc = .ok (.aload i, 2)) (j : Nat) (hj : L[j]? = some (i, .ref x)) (h : G X R M (pc + 2) L (.ref x :: S) μ cs sl K) : G X R M pc L S μ cs sl K :=
  fun p e s m args below meth c ls H locs hC hL hP hS => lv_aload hC.1 hC.2.1 hd (lv_at hL j hj) (h p e s m args below meth c ls H locs hC hL hP hS)
theorem G_istore_n {k : Fin 4} {i : Nat} {x : Int32} {L' : List (Nat × Value)} (hd : decode M.2.1 pc = .ok (.istore_n k, 1)) (hi : (k : Nat) = i) (hn : i < M.2.2.1) (hl : (i, Value.int x) :: L.filter (fun q => !(q.1 == i) && !(q.1 + 1 == i && q.2.category == 2)) = L') (h : G X R M (pc + 1) L' S μ cs sl K) : G X R M pc L (.int x :: S) μ cs sl K :=
  fun p e s m args below meth c ls H locs hC hL hP hS => lv_istore_n hC.1 hC.2.1 hd hi hL hn hl (fun ls' hL' => h p e s m args below meth c ls' H locs hC hL' hP hS)
theorem G_istore {i : Nat} {x : Int32} {L' : List (Nat × Value)} (hd : decode M.2.1 pc = .ok (.istore i, 2))  (hn : i < M.2.2.1) (hl : (i, Value.int x) :: L.filter (fun q => !(q.1 == i) && !(q.1 + 1 == i && q.2.category == 2)) = L') (h : G X R M (pc + 2) L' S μ cs sl K) : G X R M pc L (.int x :: S) μ cs sl K :=
  fun p e s m args below meth c ls H locs hC hL hP hS => lv_istore hC.1 hC.2.1 hd  hL hn hl (fun ls' hL' => h p e s m args below meth c ls' H locs hC hL' hP hS)
theorem G_astore_n {k : Fin 4} {i : Nat} {x : Nat} {L' : List (Nat × Value)} (hd : decode M.2.1 pc = .ok (.astore_n k, 1)) (hi : (k : Nat) = i) (hn : i < M.2.2.1) (hl : (i, Value.ref x) :: L.filter (fun q => !(q.1 == i) && !(q.1 + 1 == i && q.2.category == 2)) = L') (h : G X R M (pc + 1) L' S μ cs sl K) : G X R M pc L (.ref x :: S) μ cs sl K :=
  fun p e s m args below meth c ls H locs hC hL hP hS => lv_astore_n hC.1 hC.2.1 hd hi hL hn hl (fun ls' hL' => h p e s m args below meth c ls' H locs hC hL' hP hS)
theorem G_astore {i : Nat} {x : Nat} {L' : List (Nat × Value)} (hd : decode M.2.1 pc = .ok (.astore i, 2))  (hn : i < M.2.2.1) (hl : (i, Value.ref x) :: L.filter (fun q => !(q.1 == i) && !(q.1 + 1 == i && q.2.category == 2)) = L') (h : G X R M (pc + 2) L' S μ cs sl K) : G X R M pc L (.ref x :: S) μ cs sl K :=
  fun p e s m args below meth c ls H locs hC hL hP hS => lv_astore hC.1 hC.2.1 hd  hL hn hl (fun ls' hL' => h p e s m args below meth c ls' H locs hC hL' hP hS)
theorem G_lstore_n {k : Fin 4} {i : Nat} {x : Int64} {L' : List (Nat × Value)} (hd : decode M.2.1 pc = .ok (.lstore_n k, 1)) (hi : (k : Nat) = i) (hn : i + 1 < M.2.2.1) (hl : (i, Value.long x) :: L.filter (fun q => !(q.1 == i) && (!(q.1 == i + 1) && !(q.1 + 1 == i && q.2.category == 2))) = L') (h : G X R M (pc + 1) L' S μ cs sl K) : G X R M pc L (.long x :: S) μ cs sl K :=
  fun p e s m args below meth c ls H locs hC hL hP hS => lv_lstore_n hC.1 hC.2.1 hd hi hL hn hl (fun ls' hL' => h p e s m args below meth c ls' H locs hC hL' hP hS)
theorem G_lstore {i : Nat} {x : Int64} {L' : List (Nat × Value)} (hd : decode M.2.1 pc = .ok (.lstore i, 2))  (hn : i + 1 < M.2.2.1) (hl : (i, Value.long x) :: L.filter (fun q => !(q.1 == i) && (!(q.1 == i + 1) && !(q.1 + 1 == i && q.2.category == 2))) = L') (h : G X R M (pc + 2) L' S μ cs sl K) : G X R M pc L (.long x :: S) μ cs sl K :=
  fun p e s m args below meth c ls H locs hC hL hP hS => lv_lstore hC.1 hC.2.1 hd  hL hn hl (fun ls' hL' => h p e s m args below meth c ls' H locs hC hL' hP hS)
theorem G_iinc {i : Nat} {n : Int} {x v : Int32} {L' : List (Nat × Value)} (hd : decode M.2.1 pc = .ok (.iinc i n, 3)) (j : Nat) (hj : L[j]? = some (i, .int x)) (hv : x + Int32.ofInt n = v) (hn : i < M.2.2.1) (hl : (i, Value.int v) :: L.filter (fun q => !(q.1 == i) && !(q.1 + 1 == i && q.2.category == 2)) = L') (h : G X R M (pc + 3) L' S μ cs sl K) : G X R M pc L S μ cs sl K :=
  fun p e s m args below meth c ls H locs hC hL hP hS => lv_iinc hC.1 hC.2.1 hd hL hj hv hn hl (fun ls' hL' => h p e s m args below meth c ls' H locs hC hL' hP hS)
theorem G_iadd {x y : Int32} (hd : decode M.2.1 pc = .ok (.iadd, 1))  (h : G X R M (pc + 1) L (.int (x + y) :: S) μ cs sl K) : G X R M pc L (.int y :: .int x :: S) μ cs sl K :=
  fun p e s m args below meth c ls H locs hC hL hP hS => lv_iadd hC.1 hC.2.1 hd  (h p e s m args below meth c ls H locs hC hL hP hS)
theorem G_isub {x y : Int32} (hd : decode M.2.1 pc = .ok (.isub, 1))  (h : G X R M (pc + 1) L (.int (x - y) :: S) μ cs sl K) : G X R M pc L (.int y :: .int x :: S) μ cs sl K :=
  fun p e s m args below meth c ls H locs hC hL hP hS => lv_isub hC.1 hC.2.1 hd  (h p e s m args below meth c ls H locs hC hL hP hS)
theorem G_imul {x y : Int32} (hd : decode M.2.1 pc = .ok (.imul, 1))  (h : G X R M (pc + 1) L (.int (x * y) :: S) μ cs sl K) : G X R M pc L (.int y :: .int x :: S) μ cs sl K :=
  fun p e s m args below meth c ls H locs hC hL hP hS => lv_imul hC.1 hC.2.1 hd  (h p e s m args below meth c ls H locs hC hL hP hS)
theorem G_iand {x y : Int32} (hd : decode M.2.1 pc = .ok (.iand, 1))  (h : G X R M (pc + 1) L (.int (x &&& y) :: S) μ cs sl K) : G X R M pc L (.int y :: .int x :: S) μ cs sl K :=
  fun p e s m args below meth c ls H locs hC hL hP hS => lv_iand hC.1 hC.2.1 hd  (h p e s m args below meth c ls H locs hC hL hP hS)
theorem G_ior {x y : Int32} (hd : decode M.2.1 pc = .ok (.ior, 1))  (h : G X R M (pc + 1) L (.int (x ||| y) :: S) μ cs sl K) : G X R M pc L (.int y :: .int x :: S) μ cs sl K :=
  fun p e s m args below meth c ls H locs hC hL hP hS => lv_ior hC.1 hC.2.1 hd  (h p e s m args below meth c ls H locs hC hL hP hS)
theorem G_ishl {x y : Int32} (hd : decode M.2.1 pc = .ok (.ishl, 1))  (h : G X R M (pc + 1) L (.int (x <<< (y &&& 31)) :: S) μ cs sl K) : G X R M pc L (.int y :: .int x :: S) μ cs sl K :=
  fun p e s m args below meth c ls H locs hC hL hP hS => lv_ishl hC.1 hC.2.1 hd  (h p e s m args below meth c ls H locs hC hL hP hS)
theorem G_ishr {x y : Int32} (hd : decode M.2.1 pc = .ok (.ishr, 1))  (h : G X R M (pc + 1) L (.int (x >>> (y &&& 31)) :: S) μ cs sl K) : G X R M pc L (.int y :: .int x :: S) μ cs sl K :=
  fun p e s m args below meth c ls H locs hC hL hP hS => lv_ishr hC.1 hC.2.1 hd  (h p e s m args below meth c ls H locs hC hL hP hS)
theorem G_idiv {x y : Int32} (hd : decode M.2.1 pc = .ok (.idiv, 1)) (hne : ¬ y = 0) (h : G X R M (pc + 1) L (.int (x / y) :: S) μ cs sl K) : G X R M pc L (.int y :: .int x :: S) μ cs sl K :=
  fun p e s m args below meth c ls H locs hC hL hP hS => lv_idiv hC.1 hC.2.1 hd hne (h p e s m args below meth c ls H locs hC hL hP hS)
theorem G_irem {x y : Int32} (hd : decode M.2.1 pc = .ok (.irem, 1)) (hne : ¬ y = 0) (h : G X R M (pc + 1) L (.int (x - x / y * y) :: S) μ cs sl K) : G X R M pc L (.int y :: .int x :: S) μ cs sl K :=
  fun p e s m args below meth c ls H locs hC hL hP hS => lv_irem hC.1 hC.2.1 hd hne (h p e s m args below meth c ls H locs hC hL hP hS)
theorem G_iushr {x y v : Int32} (hd : decode M.2.1 pc = .ok (.iushr, 1)) (hv : (x.toUInt32 >>> (y.toUInt32 &&& Int32.toUInt32 31)).toInt32 = v) (h : G X R M (pc + 1) L (.int v :: S) μ cs sl K) : G X R M pc L (.int y :: .int x :: S) μ cs sl K :=
  fun p e s m args below meth c ls H locs hC hL hP hS => lv_iushr hC.1 hC.2.1 hd hv (h p e s m args below meth c ls H locs hC hL hP hS)
theorem G_ladd {x y : Int64} (hd : decode M.2.1 pc = .ok (.ladd, 1))  (h : G X R M (pc + 1) L (.long (x + y) :: S) μ cs sl K) : G X R M pc L (.long y :: .long x :: S) μ cs sl K :=
  fun p e s m args below meth c ls H locs hC hL hP hS => lv_ladd hC.1 hC.2.1 hd  (h p e s m args below meth c ls H locs hC hL hP hS)
theorem G_lcmp {x y : Int64} (hd : decode M.2.1 pc = .ok (.lcmp, 1))  (h : G X R M (pc + 1) L (.int (lg_cmp x y) :: S) μ cs sl K) : G X R M pc L (.long y :: .long x :: S) μ cs sl K :=
  fun p e s m args below meth c ls H locs hC hL hP hS => W.lcmp hC.1 hC.2.1 hd  (h p e s m args below meth c ls H locs hC hL hP hS)
theorem G_i2l {x : Int32} {v : Int64} (hd : decode M.2.1 pc = .ok (.i2l, 1)) (hv : x.toInt64 = v) (h : G X R M (pc + 1) L (.long v :: S) μ cs sl K) : G X R M pc L (.int x :: S) μ cs sl K :=
  fun p e s m args below meth c ls H locs hC hL hP hS => lv_i2l hC.1 hC.2.1 hd hv (h p e s m args below meth c ls H locs hC hL hP hS)
theorem G_l2i {x : Int64} {v : Int32} (hd : decode M.2.1 pc = .ok (.l2i, 1)) (hv : x.toInt32 = v) (h : G X R M (pc + 1) L (.int v :: S) μ cs sl K) : G X R M pc L (.long x :: S) μ cs sl K :=
  fun p e s m args below meth c ls H locs hC hL hP hS => lv_l2i hC.1 hC.2.1 hd hv (h p e s m args below meth c ls H locs hC hL hP hS)
theorem G_i2b {x v : Int32} (hd : decode M.2.1 pc = .ok (.i2b, 1)) (hv : x.toInt8.toInt32 = v) (h : G X R M (pc + 1) L (.int v :: S) μ cs sl K) : G X R M pc L (.int x :: S) μ cs sl K :=
  fun p e s m args below meth c ls H locs hC hL hP hS => lv_i2b hC.1 hC.2.1 hd hv (h p e s m args below meth c ls H locs hC hL hP hS)
theorem G_i2s {x v : Int32} (hd : decode M.2.1 pc = .ok (.i2s, 1)) (hv : x.toInt16.toInt32 = v) (h : G X R M (pc + 1) L (.int v :: S) μ cs sl K) : G X R M pc L (.int x :: S) μ cs sl K :=
  fun p e s m args below meth c ls H locs hC hL hP hS => lv_i2s hC.1 hC.2.1 hd hv (h p e s m args below meth c ls H locs hC hL hP hS)
theorem G_i2c {x v : Int32} (hd : decode M.2.1 pc = .ok (.i2c, 1)) (hv : (x.toUInt32 % 65536).toInt32 = v) (h : G X R M (pc + 1) L (.int v :: S) μ cs sl K) : G X R M pc L (.int x :: S) μ cs sl K :=
  fun p e s m args below meth c ls H locs hC hL hP hS => lv_i2c hC.1 hC.2.1 hd hv (h p e s m args below meth c ls H locs hC hL hP hS)
theorem G_dup {va : Value} (hd : decode M.2.1 pc = .ok (.dup, 1)) (hc : va.category = 1) (h : G X R M (pc + 1) L (va :: va :: S) μ cs sl K) : G X R M pc L (va :: S) μ cs sl K :=
  fun p e s m args below meth c ls H locs hC hL hP hS => lv_dup hC.1 hC.2.1 hd hc (h p e s m args below meth c ls H locs hC hL hP hS)
theorem G_pop {va : Value} (hd : decode M.2.1 pc = .ok (.pop, 1)) (hc : va.category = 1) (h : G X R M (pc + 1) L S μ cs sl K) : G X R M pc L (va :: S) μ cs sl K :=
  fun p e s m args below meth c ls H locs hC hL hP hS => lv_pop hC.1 hC.2.1 hd hc (h p e s m args below meth c ls H locs hC hL hP hS)
theorem G_dup2_11 {va vb : Value} (hd : decode M.2.1 pc = .ok (.dup2, 1)) (hc : va.category = 1) (hc2 : vb.category = 1) (h : G X R M (pc + 1) L (va :: vb :: va :: vb :: S) μ cs sl K) : G X R M pc L (va :: vb :: S) μ cs sl K :=
  fun p e s m args below meth c ls H locs hC hL hP hS => lv_dup2_11 hC.1 hC.2.1 hd hc hc2 (h p e s m args below meth c ls H locs hC hL hP hS)
theorem G_if_eq {x : Int32} {off : Int} {tgt : Nat} (hd : decode M.2.1 pc = .ok (.ifCond .eq off, 3)) (ht : (pc : Int) + off = (tgt : Int)) (kt : x = 0 → G X R M tgt L S μ cs sl K) (kf : ¬ x = 0 → G X R M (pc + 3) L S μ cs sl K) : G X R M pc L (.int x :: S) μ cs sl K :=
  fun p e s m args below meth c ls H locs hC hL hP hS => lv_if_eq hC.1 hC.2.1 hd ht (fun q => kt q p e s m args below meth c ls H locs hC hL hP hS) (fun q => kf q p e s m args below meth c ls H locs hC hL hP hS)
theorem G_icmp_eq {x y : Int32} {off : Int} {tgt : Nat} (hd : decode M.2.1 pc = .ok (.if_icmp .eq off, 3)) (ht : (pc : Int) + off = (tgt : Int)) (kt : x = y → G X R M tgt L S μ cs sl K) (kf : ¬ x = y → G X R M (pc + 3) L S μ cs sl K) : G X R M pc L (.int y :: .int x :: S) μ cs sl K :=
  fun p e s m args below meth c ls H locs hC hL hP hS => lv_icmp_eq hC.1 hC.2.1 hd ht (fun q => kt q p e s m args below meth c ls H locs hC hL hP hS) (fun q => kf q p e s m args below meth c ls H locs hC hL hP hS)
theorem G_if_ne {x : Int32} {off : Int} {tgt : Nat} (hd : decode M.2.1 pc = .ok (.ifCond .ne off, 3)) (ht : (pc : Int) + off = (tgt : Int)) (kt : ¬ x = 0 → G X R M tgt L S μ cs sl K) (kf : x = 0 → G X R M (pc + 3) L S μ cs sl K) : G X R M pc L (.int x :: S) μ cs sl K :=
  fun p e s m args below meth c ls H locs hC hL hP hS => lv_if_ne hC.1 hC.2.1 hd ht (fun q => kt q p e s m args below meth c ls H locs hC hL hP hS) (fun q => kf q p e s m args below meth c ls H locs hC hL hP hS)
theorem G_icmp_ne {x y : Int32} {off : Int} {tgt : Nat} (hd : decode M.2.1 pc = .ok (.if_icmp .ne off, 3)) (ht : (pc : Int) + off = (tgt : Int)) (kt : ¬ x = y → G X R M tgt L S μ cs sl K) (kf : x = y → G X R M (pc + 3) L S μ cs sl K) : G X R M pc L (.int y :: .int x :: S) μ cs sl K :=
  fun p e s m args below meth c ls H locs hC hL hP hS => lv_icmp_ne hC.1 hC.2.1 hd ht (fun q => kt q p e s m args below meth c ls H locs hC hL hP hS) (fun q => kf q p e s m args below meth c ls H locs hC hL hP hS)
theorem G_if_lt {x : Int32} {off : Int} {tgt : Nat} (hd : decode M.2.1 pc = .ok (.ifCond .lt off, 3)) (ht : (pc : Int) + off = (tgt : Int)) (kt : x < 0 → G X R M tgt L S μ cs sl K) (kf : ¬ x < 0 → G X R M (pc + 3) L S μ cs sl K) : G X R M pc L (.int x :: S) μ cs sl K :=
  fun p e s m args below meth c ls H locs hC hL hP hS => lv_if_lt hC.1 hC.2.1 hd ht (fun q => kt q p e s m args below meth c ls H locs hC hL hP hS) (fun q => kf q p e s m args below meth c ls H locs hC hL hP hS)
theorem G_icmp_lt {x y : Int32} {off : Int} {tgt : Nat} (hd : decode M.2.1 pc = .ok (.if_icmp .lt off, 3)) (ht : (pc : Int) + off = (tgt : Int)) (kt : x < y → G X R M tgt L S μ cs sl K) (kf : ¬ x < y → G X R M (pc + 3) L S μ cs sl K) : G X R M pc L (.int y :: .int x :: S) μ cs sl K :=
  fun p e s m args below meth c ls H locs hC hL hP hS => lv_icmp_lt hC.1 hC.2.1 hd ht (fun q => kt q p e s m args below meth c ls H locs hC hL hP hS) (fun q => kf q p e s m args below meth c ls H locs hC hL hP hS)
theorem G_if_ge {x : Int32} {off : Int} {tgt : Nat} (hd : decode M.2.1 pc = .ok (.ifCond .ge off, 3)) (ht : (pc : Int) + off = (tgt : Int)) (kt : 0 ≤ x → G X R M tgt L S μ cs sl K) (kf : ¬ 0 ≤ x → G X R M (pc + 3) L S μ cs sl K) : G X R M pc L (.int x :: S) μ cs sl K :=
  fun p e s m args below meth c ls H locs hC hL hP hS => lv_if_ge hC.1 hC.2.1 hd ht (fun q => kt q p e s m args below meth c ls H locs hC hL hP hS) (fun q => kf q p e s m args below meth c ls H locs hC hL hP hS)
theorem G_icmp_ge {x y : Int32} {off : Int} {tgt : Nat} (hd : decode M.2.1 pc = .ok (.if_icmp .ge off, 3)) (ht : (pc : Int) + off = (tgt : Int)) (kt : y ≤ x → G X R M tgt L S μ cs sl K) (kf : ¬ y ≤ x → G X R M (pc + 3) L S μ cs sl K) : G X R M pc L (.int y :: .int x :: S) μ cs sl K :=
  fun p e s m args below meth c ls H locs hC hL hP hS => lv_icmp_ge hC.1 hC.2.1 hd ht (fun q => kt q p e s m args below meth c ls H locs hC hL hP hS) (fun q => kf q p e s m args below meth c ls H locs hC hL hP hS)
theorem G_if_gt {x : Int32} {off : Int} {tgt : Nat} (hd : decode M.2.1 pc = .ok (.ifCond .gt off, 3)) (ht : (pc : Int) + off = (tgt : Int)) (kt : 0 < x → G X R M tgt L S μ cs sl K) (kf : ¬ 0 < x → G X R M (pc + 3) L S μ cs sl K) : G X R M pc L (.int x :: S) μ cs sl K :=
  fun p e s m args below meth c ls H locs hC hL hP hS => lv_if_gt hC.1 hC.2.1 hd ht (fun q => kt q p e s m args below meth c ls H locs hC hL hP hS) (fun q => kf q p e s m args below meth c ls H locs hC hL hP hS)
theorem G_icmp_gt {x y : Int32} {off : Int} {tgt : Nat} (hd : decode M.2.1 pc = .ok (.if_icmp .gt off, 3)) (ht : (pc : Int) + off = (tgt : Int)) (kt : y < x → G X R M tgt L S μ cs sl K) (kf : ¬ y < x → G X R M (pc + 3) L S μ cs sl K) : G X R M pc L (.int y :: .int x :: S) μ cs sl K :=
  fun p e s m args below meth c ls H locs hC hL hP hS => lv_icmp_gt hC.1 hC.2.1 hd ht (fun q => kt q p e s m args below meth c ls H locs hC hL hP hS) (fun q => kf q p e s m args below meth c ls H locs hC hL hP hS)
theorem G_if_le {x : Int32} {off : Int} {tgt : Nat} (hd : decode M.2.1 pc = .ok (.ifCond .le off, 3)) (ht : (pc : Int) + off = (tgt : Int)) (kt : x ≤ 0 → G X R M tgt L S μ cs sl K) (kf : ¬ x ≤ 0 → G X R M (pc + 3) L S μ cs sl K) : G X R M pc L (.int x :: S) μ cs sl K :=
  fun p e s m args below meth c ls H locs hC hL hP hS => lv_if_le hC.1 hC.2.1 hd ht (fun q => kt q p e s m args below meth c ls H locs hC hL hP hS) (fun q => kf q p e s m args below meth c ls H locs hC hL hP hS)
theorem G_icmp_le {x y : Int32} {off : Int} {tgt : Nat} (hd : decode M.2.1 pc = .ok (.if_icmp .le off, 3)) (ht : (pc : Int) + off = (tgt : Int)) (kt : x ≤ y → G X R M tgt L S μ cs sl K) (kf : ¬ x ≤ y → G X R M (pc + 3) L S μ cs sl K) : G X R M pc L (.int y :: .int x :: S) μ cs sl K :=
  fun p e s m args below meth c ls H locs hC hL hP hS => lv_icmp_le hC.1 hC.2.1 hd ht (fun q => kt q p e s m args below meth c ls H locs hC hL hP hS) (fun q => kf q p e s m args below meth c ls H locs hC hL hP hS)
theorem G_goto {off : Int} {tgt : Nat} (hd : decode M.2.1 pc = .ok (.goto off, 3)) (ht : (pc : Int) + off = (tgt : Int)) (h : G X R M tgt L S μ cs sl K) : G X R M pc L S μ cs sl K :=
  fun p e s m args below meth c ls H locs hC hL hP hS => lv_goto hC.1 hC.2.1 hd ht (h p e s m args below meth c ls H locs hC hL hP hS)
theorem G_tableOut {dflt lo hi : Int} {offs : Array Int} {len : Nat} {x : Int32} {tgt : Nat} (hd : decode M.2.1 pc = .ok (.tableswitch dflt lo hi offs, len)) (hx : x.toInt < lo ∨ hi < x.toInt) (ht : (pc : Int) + dflt = (tgt : Int)) (h : G X R M tgt L S μ cs sl K) : G X R M pc L (.int x :: S) μ cs sl K :=
  fun p e s m args below meth c ls H locs hC hL hP hS => lv_tableOut hC.1 hC.2.1 hd hx ht (h p e s m args below meth c ls H locs hC hL hP hS)
theorem G_tableIn {dflt lo hi : Int} {offs : Array Int} {len : Nat} {x : Int32} {off : Int} {tgt : Nat} (hd : decode M.2.1 pc = .ok (.tableswitch dflt lo hi offs, len)) (h1 : ¬ x.toInt < lo) (h2 : ¬ hi < x.toInt) (ho : offs[(x.toInt - lo).toNat]? = some off) (ht : (pc : Int) + off = (tgt : Int)) (h : G X R M tgt L S μ cs sl K) : G X R M pc L (.int x :: S) μ cs sl K :=
  fun p e s m args below meth c ls H locs hC hL hP hS => lv_tableIn hC.1 hC.2.1 hd h1 h2 ho ht (h p e s m args below meth c ls H locs hC hL hP hS)
theorem G_ldc {index : Nat} {v : Int32} (hw : Cond.constant M.1.cls index v ∈ TB) (hd : decode M.2.1 pc = .ok (.ldc index, 2)) (h : G X R M (pc + 2) L (.int v :: S) μ cs sl K) : G X R M pc L S μ cs sl K :=
  fun p e s m args below meth c ls H locs hC hL hP hS => lv_ldc hC.1 hC.2.1 hC.2.2.2.2.2.1 (hC.2.2.2.2.2.2.2.1 _ hw) hd (h p e s m args below meth c ls H locs hC hL hP hS)
theorem G_ldcw {index : Nat} {v : Int32} (hw : Cond.constant M.1.cls index v ∈ TB) (hd : decode M.2.1 pc = .ok (.ldc_w index, 3)) (h : G X R M (pc + 3) L (.int v :: S) μ cs sl K) : G X R M pc L S μ cs sl K :=
  fun p e s m args below meth c ls H locs hC hL hP hS => lv_ldcw hC.1 hC.2.1 hC.2.2.2.2.2.1 (hC.2.2.2.2.2.2.2.1 _ hw) hd (h p e s m args below meth c ls H locs hC hL hP hS)
theorem G_ldc2 {index : Nat} {v : Int64} (hw : Cond.constantLong M.1.cls index v ∈ TB) (hd : decode M.2.1 pc = .ok (.ldc2_w index, 3)) (h : G X R M (pc + 3) L (.long v :: S) μ cs sl K) : G X R M pc L S μ cs sl K :=
  fun p e s m args below meth c ls H locs hC hL hP hS => lv_ldc2 hC.1 hC.2.1 hC.2.2.2.2.2.1 (hC.2.2.2.2.2.2.2.1 _ hw) hd (h p e s m args below meth c ls H locs hC hL hP hS)
theorem G_ldcS {index : Nat} (i : Nat) (hi : i < 13) (hM : M.1.cls = RX4) (he : strI.getD i 0 = index) (hd : decode M.2.1 pc = .ok (.ldc index, 2)) (h : G X R M (pc + 2) L (.ref (X.2.2.2.2.1 i) :: S) μ cs sl K) : G X R M pc L S μ cs sl K :=
  fun p e s m args below meth c ls H locs hC hL hP hS => by
    have hZ := hC.2.2.2.2.2.2.2.2.2.2.2.2.1 i hi
    rw [he] at hZ
    exact va_ldcS hC.1 hC.2.1 (own := RX4) (by rw [← hM]; exact hC.2.2.2.2.2.1) hZ hd (h p e s m args below meth c ls H locs hC hL hP hS)
end GR
