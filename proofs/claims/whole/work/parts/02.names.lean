def va_AOA (ty : FieldType) (U : State) : Prop := (Cond.arrayOver (.array ty)).before #[] U = true
theorem va_AOA.use {ty : FieldType} {A : Array Value} {U : State} (h : va_AOA ty U) : (Cond.arrayOver (.array ty)).before A U = true := h
/-! ===== BEGIN words of one list among another's, by their places ===== -/
theorem goodIn_r {big : List Cond} (ws : List Cond) (ps : List Nat) (hp : ws = ps.filterMap (fun i => big[i]?)) (h : ws.all goodWord = true) : GoodIn big ws := by
  intro w hw
  have h1 := List.all_eq_true.mp h w hw
  rw [hp] at hw
  obtain ⟨i, -, hi⟩ := List.mem_filterMap.mp hw
  have hm : w ∈ big := by first | exact List.mem_of_getElem? hi | exact List.getElem?_mem hi
  exact ⟨hm, good_of_word h1⟩
theorem goodIn_app {big a b : List Cond} (ha : GoodIn big a) (hb : GoodIn big b) : GoodIn big (a ++ b) := fun w h => (List.mem_append.mp h).elim (ha w) (hb w)
theorem goodIn_ca {big a b : List Cond} {c : Cond} (ha : GoodIn big (c :: a)) (hb : GoodIn big b) : GoodIn big (c :: (a ++ b)) := fun w h => (List.mem_cons.mp h).elim (fun e => ha w (List.mem_cons.mpr (Or.inl e))) (fun h => (List.mem_append.mp h).elim (fun h => ha w (List.mem_cons.mpr (Or.inr h))) (hb w))
theorem goodIn_sub {big ws : List Cond} (hm : ∀ w ∈ ws, w ∈ big) (h : ws.all goodWord = true) : GoodIn big ws := fun w hw => ⟨hm w hw, good_of_word (List.all_eq_true.mp h w hw)⟩
/-! ===== END ===== -/

/-! ===== BEGIN new T[n][m]: the outer array a place, the inner ones among the pooled ===== -/
/-- f, but v at every address of l -/
def vr_up {α : Type} (f : Nat → α) (l : List Nat) (v : α) : Nat → α := fun a => if a ∈ l then v else f a
theorem vr_up_in {α : Type} {f : Nat → α} {l : List Nat} {v : α} {a : Nat} (h : a ∈ l) : vr_up f l v a = v := if_pos h
theorem vr_up_ne {α : Type} {f : Nat → α} {l : List Nat} {v : α} {a : Nat} (h : a ∉ l) : vr_up f l v a = f a := if_neg h
theorem vr_rows {L l : List Nat} {f : Nat → va_E} {e : va_E} (h : ∀ a, a ∈ l → a ∉ L) : va_pl L f ++ l.map (fun a => (a, e)) = va_pl (L ++ l) (vr_up f l e) := by
  unfold va_pl
  rw [List.map_append]
  congr 1
  · apply List.map_congr_left
    intro a ha
    rw [vr_up_ne (fun q => h a q ha)]
  · apply List.map_congr_left
    intro a ha
    rw [vr_up_in ha]
theorem vr_lay {X rows : va_W} {x : Nat × va_E} {pl : va_W} {D : va_G} {cl : List vw_C} {H : Heap} (hP : va_P D cl (((X ++ pl) ++ [x]) ++ rows) H) : va_P D cl ((X ++ [x]) ++ (pl ++ rows)) H := by
  rw [List.append_assoc (X ++ pl)] at hP
  have h := va_P.swap hP
  rw [← List.append_assoc X] at h
  have h2 := va_P.swap h
  rw [List.append_assoc (X ++ [x])] at h2
  exact h2
theorem vr_layD {X rows : va_W} {x : Nat × va_E} {pl : va_W} {A : Nat → Prop} (hD : va_D A (((X ++ pl) ++ [x]) ++ rows)) : va_D A ((X ++ [x]) ++ (pl ++ rows)) := by
  rw [List.append_assoc (X ++ pl)] at hD
  have h := va_D.swap hD
  rw [← List.append_assoc X] at h
  have h2 := va_D.swap h
  rw [List.append_assoc (X ++ [x])] at h2
  exact h2
theorem vr_outer (c : ClassId) (N h0 : Nat) : ∀ i : Nat, Jvm.Free.Multi.outerC c N h0 i = arrV c N (fun j => va_rf (if j < i then some (h0 + 1 + j) else none))
  | 0 => by
    show ({ cls := c, slots := Array.replicate N .null, vm := .none } : Cell) = _
    rw [arrV_new]
    refine congrArg (arrV c N) (funext fun j => ?_)
    simp [va_rf]
  | i + 1 => by
    show (Jvm.Free.Multi.outerC c N h0 i).setSlot i (.ref (h0 + 1 + i)) = _
    rw [vr_outer c N h0 i, arrV_store]
    refine congrArg (arrV c N) (funext fun j => ?_)
    by_cases e : j = i
    · subst e
      simp [updV, va_rf]
    · by_cases h : j < i
      · simp [updV, e, h, Nat.lt_succ_of_lt h]
      · simp [updV, e, h, show ¬ j < i + 1 by omega]
section VGM
variable {p : Program} {l : Launch} {e : Env} {R : Room} {s : State} {m : MethodId} {args : Array Value} {below : List Frame} {meth : Method} {c : Code} {H : Heap} {locs : List Loc} {cells slots : Nat} {Q : State → Prop}
variable {cc : ByteArray} {pc : Nat} {ls : Array Slot} {rest : List Value} {D : va_G} {cl : List vw_C} {A : Nat → Prop} {a : Nat} {tys : List (ClassId × FieldType)} {ws : va_W} {H0 : Heap}
theorem va_mna {X : va_W} {L : List Nat} {f : Nat → va_E} {cc : ByteArray} (hexec : p.tables.exec = Jvm.exec) (hb : c.code = cc) {own : String} {index : Nat} {ty : FieldType} {cy : ClassId} (hown : s.vm.findClass own = some m.cls) (hclink : (Cond.classLink own index ("[" ++ (FieldType.array ty).toString)).before args s = true) (hover : va_AOA ty s) (harr : (Cond.arrayClass ty).before args s = true) (hcy : s.vm.findClass (FieldType.array ty).toString = some cy)
    (hK : va_K D cl tys s) (hP : va_P D cl (X ++ va_pl L f) H) (hD : va_D A (X ++ va_pl L f)) (hS : va_S A H0 H locs) (hA : ∀ q, H0.size ≤ q → A q) {n k : Int32} {N' K' : Nat} {z : vp_A} (hn : ¬ n < 0) (hk : ¬ k < 0) (hN : n.toNatClampNeg = N') (hM : k.toNatClampNeg = K')
    (hb1 : N' * 4 ≤ 536870912) (hb2 : K' * componentBytes ty ≤ 536870912) (hb3 : K' ≤ 536870912) (hdf : fits ty (defaultValue ty) = true) (hdd : (defaultValue ty).isDefault = true) (hcells : cells + (1 + N') ≤ R.cells) (hslots : slots + (N' + N' * K') ≤ R.slots) (hz : ∀ c : ClassId, Jvm.Free.Multi.innerC c K' (defaultValue ty) = vp_cell c z) (hdg : decode cc pc = .ok (.multianewarray index 2, 4))
    (kk : ∀ (q : Nat) (r : Nat → Nat) (cA : ClassId) (H1 : Heap), (∀ i j : Nat, i < N' → j < N' → r i = r j → i = j) → (∀ i : Nat, i < N' → r i ∉ L) → va_K D cl (tys ++ [(cA, .array ty)]) s →
      va_P D cl ((X ++ [(q, .inl (cA, N', .inr (.inr (.inr (.inr (fun i => if i < N' then some (r i) else none))))))]) ++ va_pl (L ++ (List.range N').map r) (vr_up f ((List.range N').map r) (.inl (cy, z)))) H1 → va_D A ((X ++ [(q, .inl (cA, N', .inr (.inr (.inr (.inr (fun i => if i < N' then some (r i) else none))))))]) ++ va_pl (L ++ (List.range N').map r) (vr_up f ((List.range N').map r) (.inl (cy, z)))) → va_S A H0 H1 locs →
      W p l e R s m args below meth c H1 locs (cells + 1 + N') (slots + N' + N' * K') Q (F0 m (pc + 4) ls (.ref q :: rest))) : W p l e R s m args below meth c H locs cells slots Q (F0 m pc ls (.int k :: .int n :: rest)) := by
  subst hN
  subst hM
  intro T hT Xs
  obtain ⟨vm₁, cA, comp, -, fA, fC, hO, -, X', step⟩ := Xs.multianewarray2F hexec hown hclink (va_AOA.use hover) harr (g := F0 m pc ls (.int k :: .int n :: rest)) rfl (by rw [hb]; exact hdg) rfl hn hk hb1 hb2 hb3 hdf hdd hcells hslots
  have ec : some cy = some comp := hcy.symm.trans fC
  cases ec
  generalize hF : Jvm.Free.Multi.fill (T.setVm vm₁) cA cy n.toNatClampNeg k.toNatClampNeg (defaultValue ty) n.toNatClampNeg = F at X' step
  have hTh : (T.setVm vm₁).heap = H := hT
  obtain ⟨f1, f2, -, -⟩ := Jvm.Free.Multi.fill_facts (T.setVm vm₁) cA cy n.toNatClampNeg k.toNatClampNeg (defaultValue ty) n.toNatClampNeg
  rw [hF, hTh] at f1 f2
  have hold : ∀ x : Nat, x < H.size → F.heap[x]? = H[x]? := fun x hx => by
    have := Jvm.Free.Multi.fill_old (T.setVm vm₁) cA cy n.toNatClampNeg k.toNatClampNeg (defaultValue ty) (a := x) (by rw [hTh]; exact hx) n.toNatClampNeg
    rw [hF, hTh] at this
    exact this
  have hrow : ∀ j : Nat, j < n.toNatClampNeg → F.heap[H.size + 1 + j]? = some (vp_cell cy z) := fun j hj => by
    have := Jvm.Free.Multi.fill_inner (T.setVm vm₁) cA cy n.toNatClampNeg k.toNatClampNeg (defaultValue ty) n.toNatClampNeg j hj
    rw [hF, hTh, hz] at this
    exact this
  have hout : Jvm.Free.Multi.outerC cA n.toNatClampNeg H.size n.toNatClampNeg = vp_cell cA (n.toNatClampNeg, .inr (.inr (.inr (.inr (fun i => if i < n.toNatClampNeg then some (H.size + 1 + i) else none))))) := by
    rw [vp_cell_q]
    exact vr_outer cA n.toNatClampNeg H.size n.toNatClampNeg
  rw [hout] at f2
  have hlt : ∀ a, a ∈ L → a < H.size := fun a ha => by
    obtain ⟨k9, hk9⟩ := va_pl_get (X := X) (f := f) ha
    exact (hP k9 _ hk9).lt
  have hnl : ∀ i : Nat, i < n.toNatClampNeg → H.size + 1 + i ∉ L := fun i _ h => by
    have := hlt _ h
    omega
  have hnm : ∀ a, a ∈ (List.range n.toNatClampNeg).map (fun i => H.size + 1 + i) → a ∉ L := fun a ha h => by
    obtain ⟨i, -, rfl⟩ := List.mem_map.mp ha
    have := hlt _ h
    omega
  have hP0 : va_P D cl (X ++ va_pl L f) F.heap := hP.kept (fun k9 x hx => hold x.1 ((hP k9 x hx).lt))
  have hP1 : va_P D cl ((X ++ va_pl L f) ++ [(H.size, .inl (cA, n.toNatClampNeg, .inr (.inr (.inr (.inr (fun i => if i < n.toNatClampNeg then some (H.size + 1 + i) else none))))))]) F.heap := hP0.app (fun k9 x hx => by
    have h0 : k9 < 1 := (List.getElem?_eq_some_iff.mp hx).1
    rw [show k9 = 0 by omega] at hx
    cases hx
    exact f2)
  have hP2 : va_P D cl (((X ++ va_pl L f) ++ [(H.size, .inl (cA, n.toNatClampNeg, .inr (.inr (.inr (.inr (fun i => if i < n.toNatClampNeg then some (H.size + 1 + i) else none))))))]) ++ ((List.range n.toNatClampNeg).map (fun i => H.size + 1 + i)).map (fun a => (a, .inl (cy, z)))) F.heap := hP1.app (fun k9 x hx => by
    obtain ⟨a, ha, rfl⟩ := List.mem_map.mp (List.mem_of_getElem? hx)
    obtain ⟨i, hi, rfl⟩ := List.mem_map.mp ha
    exact hrow i (List.mem_range.mp hi))
  have hD2 : va_D A (((X ++ va_pl L f) ++ [(H.size, .inl (cA, n.toNatClampNeg, .inr (.inr (.inr (.inr (fun i => if i < n.toNatClampNeg then some (H.size + 1 + i) else none))))))]) ++ ((List.range n.toNatClampNeg).map (fun i => H.size + 1 + i)).map (fun a => (a, .inl (cy, z)))) := by
    have hD1 := hD.push (e := .inl (cA, n.toNatClampNeg, .inr (.inr (.inr (.inr (fun i => if i < n.toNatClampNeg then some (H.size + 1 + i) else none)))))) hP rfl (hA _ hS.1)
    generalize hW1 : (X ++ va_pl L f) ++ [(H.size, .inl (cA, n.toNatClampNeg, .inr (.inr (.inr (.inr (fun i => if i < n.toNatClampNeg then some (H.size + 1 + i) else none))))))] = W1 at hD1 hP1 ⊢
    have hle : ∀ (k9 : Nat) (x : Nat × va_E), W1[k9]? = some x → x.1 ≤ H.size := fun k9 x hx => by
      rw [← hW1] at hx
      by_cases hl : k9 < (X ++ va_pl L f).length
      · rw [List.getElem?_append_left hl] at hx
        exact Nat.le_of_lt ((hP k9 x hx).lt)
      · rw [List.getElem?_append_right (by omega)] at hx
        have h0 : k9 - (X ++ va_pl L f).length < 1 := (List.getElem?_eq_some_iff.mp hx).1
        rw [show k9 - (X ++ va_pl L f).length = 0 by omega] at hx
        cases hx
        exact Nat.le_refl _
    have hr : ∀ (k9 : Nat) (x : Nat × va_E), (((List.range n.toNatClampNeg).map (fun i => H.size + 1 + i)).map (fun a => ((a, .inl (cy, z)) : Nat × va_E)))[k9]? = some x → x.1 = H.size + 1 + k9 := fun k9 x hx => by
      rw [List.getElem?_map, List.getElem?_map] at hx
      by_cases h9 : k9 < n.toNatClampNeg
      · rw [List.getElem?_range h9] at hx
        cases hx
        rfl
      · have hn0 : (List.range n.toNatClampNeg)[k9]? = none := List.getElem?_eq_none (by rw [List.length_range]; omega)
        rw [hn0] at hx
        cases hx
    refine ⟨fun i j x y hi hj hxy => ?_, fun k9 x hx => ?_⟩
    · by_cases h1 : i < W1.length <;> by_cases h2 : j < W1.length
      · rw [List.getElem?_append_left h1] at hi
        rw [List.getElem?_append_left h2] at hj
        exact hD1.1 i j x y hi hj hxy
      · rw [List.getElem?_append_left h1] at hi
        rw [List.getElem?_append_right (by omega)] at hj
        have := hle _ _ hi
        have := hr _ _ hj
        omega
      · rw [List.getElem?_append_right (by omega)] at hi
        rw [List.getElem?_append_left h2] at hj
        have := hle _ _ hj
        have := hr _ _ hi
        omega
      · rw [List.getElem?_append_right (by omega)] at hi hj
        have := hr _ _ hi
        have := hr _ _ hj
        omega
    · by_cases h1 : k9 < W1.length
      · rw [List.getElem?_append_left h1] at hx
        exact hD1.2 k9 x hx
      · rw [List.getElem?_append_right (by omega)] at hx
        have := hr _ _ hx
        exact hA _ (by have := hS.1; omega)
  have hAr : ArrOfT s cA (.array ty) := fun N9 z9 => by
    obtain ⟨-, k9, hk9, cm9, hkk9⟩ := (hO 0 0 0).1
    exact ⟨(fun q hq => by cases hq), k9, hk9, cm9, hkk9⟩
  have hK2 : va_K D cl (tys ++ [(cA, .array ty)]) s := ⟨hK.1, fun k9 x hx => by
    by_cases hl : k9 < tys.length
    · rw [List.getElem?_append_left hl] at hx
      exact hK.2 k9 x hx
    · rw [List.getElem?_append_right (by omega)] at hx
      have h0 : k9 - tys.length < 1 := (List.getElem?_eq_some_iff.mp hx).1
      rw [show k9 - tys.length = 0 by omega] at hx
      cases hx
      exact ⟨hAr, fA⟩⟩
  obtain ⟨t, a1, b1⟩ := kk H.size (fun i => H.size + 1 + i) cA F.heap (fun i j _ _ h => by have h9 : H.size + 1 + i = H.size + 1 + j := h; omega) hnl hK2 (by rw [← vr_rows hnm]; exact vr_lay hP2) (by rw [← vr_rows hnm]; exact vr_layD hD2) ⟨by rw [f1]; have := hS.1; omega, fun x h1 h2 => (hold x (Nat.lt_of_lt_of_le h1 hS.1)).trans (hS.2.1 x h1 h2), hS.2.2⟩ F rfl X'
  refine ⟨t, step t ?_, b1⟩
  have e : T.heap.size = H.size := by rw [hT]
  rw [e]
  exact a1
end VGM
/-! ===== END ===== -/

/-! ===== BEGIN printed: names, fields, word lists, decode rows ===== -/
def RX0 : String := "FoldedHeaps$Cover"
def TX0 : u_T := fun k => match k with
  | 0 => ("FoldedHeaps$Cover", "toldTo", "[I", true)
  | _ => ("FoldedHeaps$Cover", "having", "[I", true)
def tyX0 : Nat → FieldType := fun k => match k with
  | 0 => .array .int
  | _ => .array .int
abbrev wsX00 : List Cond := u_ws RX0 TX0 2
theorem nmX0 : ∀ a, a < 2 → ∀ b, b < 2 → a ≠ b → (TX0 a).2.1 ≠ (TX0 b).2.1 := by decide +kernel
theorem tyX0_ok : ∀ k, k < 2 → parseFieldDescriptor (TX0 k).2.2.1 = some (tyX0 k) := by decide +kernel
abbrev cX0_init : ByteArray := prog_2_method_1_code
def yX0_init : MethodName := ⟨RX0, "<init>", "()V"⟩
abbrev cX0_holds : ByteArray := prog_2_method_2_code
def yX0_holds : MethodName := ⟨RX0, "holds", "(LFoldedHeaps$Shape;LFoldedHeaps$Shape;)Z"⟩
abbrev cX0_tellFrom : ByteArray := prog_2_method_3_code
def yX0_tellFrom : MethodName := ⟨RX0, "tellFrom", "(LFoldedHeaps$Shape;LFoldedHeaps$Shape;II)Z"⟩
abbrev cX0_fits : ByteArray := prog_2_method_4_code
def yX0_fits : MethodName := ⟨RX0, "fits", "(LFoldedHeaps$Shape;LFoldedHeaps$Shape;II)Z"⟩
abbrev cX0_allows : ByteArray := prog_2_method_5_code
def yX0_allows : MethodName := ⟨RX0, "allows", "(II)Z"⟩
def RX1 : String := "FoldedHeaps$Deeds"
def TX1 : u_T := fun k => match k with
  | _ => ("FoldedHeaps$Deeds", "row", "[I", true)
def tyX1 : Nat → FieldType := fun k => match k with
  | _ => .array .int
abbrev wsX10 : List Cond := u_ws RX1 TX1 1
theorem nmX1 : ∀ a, a < 1 → ∀ b, b < 1 → a ≠ b → (TX1 a).2.1 ≠ (TX1 b).2.1 := by decide +kernel
theorem tyX1_ok : ∀ k, k < 1 → parseFieldDescriptor (TX1 k).2.2.1 = some (tyX1 k) := by decide +kernel
abbrev cX1_init : ByteArray := prog_3_method_1_code
def yX1_init : MethodName := ⟨RX1, "<init>", "()V"⟩
abbrev cX1_perform : ByteArray := prog_3_method_2_code
def yX1_perform : MethodName := ⟨RX1, "perform", "(LFoldedHeaps$Shape;III)I"⟩
abbrev cX1_looksAtOther : ByteArray := prog_3_method_3_code
def yX1_looksAtOther : MethodName := ⟨RX1, "looksAtOther", "(I)Z"⟩
abbrev cX1_answerAhead : ByteArray := prog_3_method_4_code
def yX1_answerAhead : MethodName := ⟨RX1, "answerAhead", "(LFoldedHeaps$Shape;III)I"⟩
abbrev cX1_follow : ByteArray := prog_3_method_5_code
def yX1_follow : MethodName := ⟨RX1, "follow", "(LFoldedHeaps$Shape;II)V"⟩
abbrev cX1_cut : ByteArray := prog_3_method_6_code
def yX1_cut : MethodName := ⟨RX1, "cut", "(LFoldedHeaps$Shape;I)V"⟩
abbrev cX1_link : ByteArray := prog_3_method_7_code
def yX1_link : MethodName := ⟨RX1, "link", "(LFoldedHeaps$Shape;II)V"⟩
def RX2 : String := "FoldedHeaps$Folding"
def TX2 : u_T := fun k => match k with
  | 0 => ("FoldedHeaps$Folding", "folded", "LFoldedHeaps$Shape;", true)
  | _ => ("FoldedHeaps$Folding", "group", "[I", true)
def tyX2 : Nat → FieldType := fun k => match k with
  | 0 => .object "FoldedHeaps$Shape"
  | _ => .array .int
abbrev wsX20 : List Cond := u_ws RX2 TX2 2
theorem nmX2 : ∀ a, a < 2 → ∀ b, b < 2 → a ≠ b → (TX2 a).2.1 ≠ (TX2 b).2.1 := by decide +kernel
theorem tyX2_ok : ∀ k, k < 2 → parseFieldDescriptor (TX2 k).2.2.1 = some (tyX2 k) := by decide +kernel
abbrev cX2_init : ByteArray := prog_4_method_1_code
def yX2_init : MethodName := ⟨RX2, "<init>", "()V"⟩
abbrev cX2_apply : ByteArray := prog_4_method_2_code
def yX2_apply : MethodName := ⟨RX2, "apply", "(LFoldedHeaps$Shape;Z)V"⟩
abbrev cX2_joinGroup : ByteArray := prog_4_method_3_code
def yX2_joinGroup : MethodName := ⟨RX2, "joinGroup", "(LFoldedHeaps$Shape;ZI)V"⟩
abbrev cX2_alike : ByteArray := prog_4_method_4_code
def yX2_alike : MethodName := ⟨RX2, "alike", "([[III)Z"⟩
abbrev cX2_mergeNexts : ByteArray := prog_4_method_5_code
def yX2_mergeNexts : MethodName := ⟨RX2, "mergeNexts", "(LFoldedHeaps$Shape;)V"⟩
def RX3 : String := "FoldedHeaps$Formula"
def TX3 : u_T := fun k => match k with
  | 0 => ("FoldedHeaps$Formula", "letters", "I", false)
  | 1 => ("FoldedHeaps$Formula", "letter", "[I", true)
  | 2 => ("FoldedHeaps$Formula", "hasAll", "[Z", true)
  | 3 => ("FoldedHeaps$Formula", "items", "I", false)
  | 4 => ("FoldedHeaps$Formula", "kind", "[I", true)
  | 5 => ("FoldedHeaps$Formula", "first", "[I", true)
  | 6 => ("FoldedHeaps$Formula", "second", "[I", true)
  | 7 => ("FoldedHeaps$Formula", "height", "I", false)
  | 8 => ("FoldedHeaps$Formula", "highest", "I", false)
  | 9 => ("FoldedHeaps$Formula", "standsFor", "[I", true)
  | _ => ("FoldedHeaps$Formula", "heap", "[I", true)
def tyX3 : Nat → FieldType := fun k => match k with
  | 0 => .int
  | 1 => .array .int
  | 2 => .array .boolean
  | 3 => .int
  | 4 => .array .int
  | 5 => .array .int
  | 6 => .array .int
  | 7 => .int
  | 8 => .int
  | 9 => .array .int
  | _ => .array .int
abbrev wsX30 : List Cond := u_ws RX3 TX3 11
theorem nmX3 : ∀ a, a < 11 → ∀ b, b < 11 → a ≠ b → (TX3 a).2.1 ≠ (TX3 b).2.1 := by decide +kernel
theorem tyX3_ok : ∀ k, k < 11 → parseFieldDescriptor (TX3 k).2.2.1 = some (tyX3 k) := by decide +kernel
abbrev cX3_init : ByteArray := prog_5_method_1_code
def yX3_init : MethodName := ⟨RX3, "<init>", "()V"⟩
abbrev cX3_clear : ByteArray := prog_5_method_2_code
def yX3_clear : MethodName := ⟨RX3, "clear", "()V"⟩
abbrev cX3_placeOf : ByteArray := prog_5_method_3_code
def yX3_placeOf : MethodName := ⟨RX3, "placeOf", "(I)I"⟩
abbrev cX3_putLetter : ByteArray := prog_5_method_4_code
def yX3_putLetter : MethodName := ⟨RX3, "putLetter", "(IZ)V"⟩
abbrev cX3_allBits : ByteArray := prog_5_method_5_code
def yX3_allBits : MethodName := ⟨RX3, "allBits", "()I"⟩
abbrev cX3_isFull : ByteArray := prog_5_method_6_code
def yX3_isFull : MethodName := ⟨RX3, "isFull", "()Z"⟩
abbrev cX3_hasEnoughFor : ByteArray := prog_5_method_7_code
def yX3_hasEnoughFor : MethodName := ⟨RX3, "hasEnoughFor", "(I)Z"⟩
abbrev cX3_putItem : ByteArray := prog_5_method_8_code
def yX3_putItem : MethodName := ⟨RX3, "putItem", "(III)V"⟩
abbrev cX3_taken : ByteArray := prog_5_method_9_code
def yX3_taken : MethodName := ⟨RX3, "taken", "(I)I"⟩
abbrev cX3_worth : ByteArray := prog_5_method_10_code
def yX3_worth : MethodName := ⟨RX3, "worth", "(LFoldedHeaps$Shape;)I"⟩
abbrev cX3_worthFrom : ByteArray := prog_5_method_11_code
def yX3_worthFrom : MethodName := ⟨RX3, "worthFrom", "(LFoldedHeaps$Shape;I)I"⟩
abbrev cX3_worthOfItems : ByteArray := prog_5_method_12_code
def yX3_worthOfItems : MethodName := ⟨RX3, "worthOfItems", "(LFoldedHeaps$Shape;)I"⟩
abbrev cX3_truthOf : ByteArray := prog_5_method_13_code
def yX3_truthOf : MethodName := ⟨RX3, "truthOf", "(LFoldedHeaps$Shape;III)I"⟩
def RX4 : String := "FoldedHeaps$Reader"
def TX4 : u_T := fun k => match k with
  | 0 => ("FoldedHeaps$Reader", "draft", "LFoldedHeaps$Told;", false)
  | 1 => ("FoldedHeaps$Reader", "furthestNode", "I", false)
  | 2 => ("FoldedHeaps$Reader", "fault", "I", false)
  | 3 => ("FoldedHeaps$Reader", "place", "I", false)
  | _ => ("FoldedHeaps$Reader", "lines", "I", false)
def tyX4 : Nat → FieldType := fun k => match k with
  | 0 => .object "FoldedHeaps$Told"
  | 1 => .int
  | 2 => .int
  | 3 => .int
  | _ => .int
abbrev wsX40 : List Cond := u_ws RX4 TX4 5
theorem nmX4 : ∀ a, a < 5 → ∀ b, b < 5 → a ≠ b → (TX4 a).2.1 ≠ (TX4 b).2.1 := by decide +kernel
theorem tyX4_ok : ∀ k, k < 5 → parseFieldDescriptor (TX4 k).2.2.1 = some (tyX4 k) := by decide +kernel
abbrev cX4_init : ByteArray := prog_6_method_1_code
def yX4_init : MethodName := ⟨RX4, "<init>", "()V"⟩
abbrev cX4_takes : ByteArray := prog_6_method_2_code
def yX4_takes : MethodName := ⟨RX4, "takes", "(LFoldedHeaps$Tape;)Z"⟩
abbrev cX4_refuse : ByteArray := prog_6_method_3_code
def yX4_refuse : MethodName := ⟨RX4, "refuse", "(LFoldedHeaps$Tape;I)Z"⟩
abbrev cX4_refuseToken : ByteArray := prog_6_method_4_code
def yX4_refuseToken : MethodName := ⟨RX4, "refuseToken", "(LFoldedHeaps$Tape;)Z"⟩
abbrev cX4_takeLine : ByteArray := prog_6_method_5_code
def yX4_takeLine : MethodName := ⟨RX4, "takeLine", "(LFoldedHeaps$Tape;)Z"⟩
abbrev cX4_takeNode : ByteArray := prog_6_method_6_code
def yX4_takeNode : MethodName := ⟨RX4, "takeNode", "(LFoldedHeaps$Tape;Z)Z"⟩
abbrev cX4_takeAt : ByteArray := prog_6_method_7_code
def yX4_takeAt : MethodName := ⟨RX4, "takeAt", "(LFoldedHeaps$Tape;)Z"⟩
abbrev cX4_takeNext : ByteArray := prog_6_method_8_code
def yX4_takeNext : MethodName := ⟨RX4, "takeNext", "(LFoldedHeaps$Tape;)Z"⟩
abbrev cX4_takeAsk : ByteArray := prog_6_method_9_code
def yX4_takeAsk : MethodName := ⟨RX4, "takeAsk", "(LFoldedHeaps$Tape;)Z"⟩
abbrev cX4_tellLetter : ByteArray := prog_6_method_10_code
def yX4_tellLetter : MethodName := ⟨RX4, "tellLetter", "(LFoldedHeaps$Tape;LFoldedHeaps$Formula;)Z"⟩
abbrev cX4_takeItem : ByteArray := prog_6_method_11_code
def yX4_takeItem : MethodName := ⟨RX4, "takeItem", "(LFoldedHeaps$Tape;LFoldedHeaps$Formula;)Z"⟩
abbrev cX4_itemKind : ByteArray := prog_6_method_12_code
def yX4_itemKind : MethodName := ⟨RX4, "itemKind", "(LFoldedHeaps$Tape;)I"⟩
abbrev cX4_takeVariable : ByteArray := prog_6_method_13_code
def yX4_takeVariable : MethodName := ⟨RX4, "takeVariable", "(LFoldedHeaps$Tape;)I"⟩
abbrev cX4_takeLetter : ByteArray := prog_6_method_14_code
def yX4_takeLetter : MethodName := ⟨RX4, "takeLetter", "(LFoldedHeaps$Tape;LFoldedHeaps$Formula;)I"⟩
abbrev cX4_takeNodeNumber : ByteArray := prog_6_method_15_code
def yX4_takeNodeNumber : MethodName := ⟨RX4, "takeNodeNumber", "(LFoldedHeaps$Tape;)I"⟩
abbrev cX4_takeTruth : ByteArray := prog_6_method_16_code
def yX4_takeTruth : MethodName := ⟨RX4, "takeTruth", "(LFoldedHeaps$Tape;)I"⟩
abbrev cX4_takeSign : ByteArray := prog_6_method_17_code
def yX4_takeSign : MethodName := ⟨RX4, "takeSign", "(LFoldedHeaps$Tape;C)Z"⟩
def RX5 : String := "FoldedHeaps$Shape"
def TX5 : u_T := fun k => match k with
  | 0 => ("FoldedHeaps$Shape", "size", "I", false)
  | 1 => ("FoldedHeaps$Shape", "many", "[Z", true)
  | 2 => ("FoldedHeaps$Shape", "at", "[[I", true)
  | 3 => ("FoldedHeaps$Shape", "next", "[[I", true)
  | 4 => ("FoldedHeaps$Shape", "way", "[[I", true)
  | _ => ("FoldedHeaps$Shape", "reach", "[[I", true)
def tyX5 : Nat → FieldType := fun k => match k with
  | 0 => .int
  | 1 => .array .boolean
  | 2 => .array (.array .int)
  | 3 => .array (.array .int)
  | 4 => .array (.array .int)
  | _ => .array (.array .int)
abbrev wsX50 : List Cond := u_ws RX5 TX5 6
theorem nmX5 : ∀ a, a < 6 → ∀ b, b < 6 → a ≠ b → (TX5 a).2.1 ≠ (TX5 b).2.1 := by decide +kernel
theorem tyX5_ok : ∀ k, k < 6 → parseFieldDescriptor (TX5 k).2.2.1 = some (tyX5 k) := by decide +kernel
abbrev cX5_init : ByteArray := prog_7_method_1_code
def yX5_init : MethodName := ⟨RX5, "<init>", "()V"⟩
abbrev cX5_has : ByteArray := prog_7_method_2_code
def yX5_has : MethodName := ⟨RX5, "has", "(I)Z"⟩
abbrev cX5_isFull : ByteArray := prog_7_method_3_code
def yX5_isFull : MethodName := ⟨RX5, "isFull", "()Z"⟩
abbrev cX5_clear : ByteArray := prog_7_method_4_code
def yX5_clear : MethodName := ⟨RX5, "clear", "()V"⟩
abbrev cX5_copy : ByteArray := prog_7_method_5_code
def yX5_copy : MethodName := ⟨RX5, "copy", "(LFoldedHeaps$Shape;)V"⟩
abbrev cX5_append : ByteArray := prog_7_method_6_code
def yX5_append : MethodName := ⟨RX5, "append", "(Z)V"⟩
abbrev cX5_drop : ByteArray := prog_7_method_7_code
def yX5_drop : MethodName := ⟨RX5, "drop", "(I)V"⟩
abbrev cX5_closeGap : ByteArray := prog_7_method_8_code
def yX5_closeGap : MethodName := ⟨RX5, "closeGap", "([II)V"⟩
abbrev cX5_sameness : ByteArray := prog_7_method_9_code
def yX5_sameness : MethodName := ⟨RX5, "sameness", "(II)I"⟩
abbrev cX5_holding : ByteArray := prog_7_method_10_code
def yX5_holding : MethodName := ⟨RX5, "holding", "(I)I"⟩
abbrev cX5_manys : ByteArray := prog_7_method_11_code
def yX5_manys : MethodName := ⟨RX5, "manys", "()I"⟩
abbrev cX5_atsThatAre : ByteArray := prog_7_method_12_code
def yX5_atsThatAre : MethodName := ⟨RX5, "atsThatAre", "(I)I"⟩
abbrev cX5_nextsThatAre : ByteArray := prog_7_method_13_code
def yX5_nextsThatAre : MethodName := ⟨RX5, "nextsThatAre", "(I)I"⟩
abbrev cX5_cellsThatAre : ByteArray := prog_7_method_14_code
def yX5_cellsThatAre : MethodName := ⟨RX5, "cellsThatAre", "([II)I"⟩
abbrev cX5_isHeap : ByteArray := prog_7_method_15_code
def yX5_isHeap : MethodName := ⟨RX5, "isHeap", "()Z"⟩
abbrev cX5_trace : ByteArray := prog_7_method_16_code
def yX5_trace : MethodName := ⟨RX5, "trace", "()V"⟩
abbrev cX5_reaching : ByteArray := prog_7_method_17_code
def yX5_reaching : MethodName := ⟨RX5, "reaching", "(II)I"⟩
def RX6 : String := "FoldedHeaps$Sharpening"
def TX6 : u_T := fun k => match k with
  | 0 => ("FoldedHeaps$Sharpening", "sharp", "LFoldedHeaps$Shape;", true)
  | 1 => ("FoldedHeaps$Sharpening", "changes", "I", false)
  | _ => ("FoldedHeaps$Sharpening", "impossible", "Z", false)
def tyX6 : Nat → FieldType := fun k => match k with
  | 0 => .object "FoldedHeaps$Shape"
  | 1 => .int
  | _ => .boolean
abbrev wsX60 : List Cond := u_ws RX6 TX6 3
theorem nmX6 : ∀ a, a < 3 → ∀ b, b < 3 → a ≠ b → (TX6 a).2.1 ≠ (TX6 b).2.1 := by decide +kernel
theorem tyX6_ok : ∀ k, k < 3 → parseFieldDescriptor (TX6 k).2.2.1 = some (tyX6 k) := by decide +kernel
abbrev cX6_init : ByteArray := prog_8_method_1_code
def yX6_init : MethodName := ⟨RX6, "<init>", "()V"⟩
abbrev cX6_apply : ByteArray := prog_8_method_2_code
def yX6_apply : MethodName := ⟨RX6, "apply", "(LFoldedHeaps$Shape;)I"⟩
abbrev cX6_drawFromAts : ByteArray := prog_8_method_3_code
def yX6_drawFromAts : MethodName := ⟨RX6, "drawFromAts", "()V"⟩
abbrev cX6_drawFromNexts : ByteArray := prog_8_method_4_code
def yX6_drawFromNexts : MethodName := ⟨RX6, "drawFromNexts", "()V"⟩
abbrev cX6_makeSingle : ByteArray := prog_8_method_5_code
def yX6_makeSingle : MethodName := ⟨RX6, "makeSingle", "(I)V"⟩
abbrev cX6_clearOthers : ByteArray := prog_8_method_6_code
def yX6_clearOthers : MethodName := ⟨RX6, "clearOthers", "([II)V"⟩
def RX7 : String := "FoldedHeaps$Sheet"
def TX7 : u_T := fun k => match k with
  | 0 => ("FoldedHeaps$Sheet", "isLaid", "Z", false)
  | 1 => ("FoldedHeaps$Sheet", "lane", "I", false)
  | 2 => ("FoldedHeaps$Sheet", "size", "I", false)
  | _ => ("FoldedHeaps$Sheet", "cells", "[I", true)
def tyX7 : Nat → FieldType := fun k => match k with
  | 0 => .boolean
  | 1 => .int
  | 2 => .int
  | _ => .array .int
abbrev wsX70 : List Cond := u_ws RX7 TX7 4
theorem nmX7 : ∀ a, a < 4 → ∀ b, b < 4 → a ≠ b → (TX7 a).2.1 ≠ (TX7 b).2.1 := by decide +kernel
theorem tyX7_ok : ∀ k, k < 4 → parseFieldDescriptor (TX7 k).2.2.1 = some (tyX7 k) := by decide +kernel
abbrev cX7_init : ByteArray := prog_9_method_1_code
def yX7_init : MethodName := ⟨RX7, "<init>", "()V"⟩
abbrev cX7_renew : ByteArray := prog_9_method_2_code
def yX7_renew : MethodName := ⟨RX7, "renew", "(II)V"⟩
abbrev cX7_findTaken : ByteArray := prog_9_method_3_code
def yX7_findTaken : MethodName := ⟨RX7, "findTaken", "(III)I"⟩
abbrev cX7_put : ByteArray := prog_9_method_4_code
def yX7_put : MethodName := ⟨RX7, "put", "(II)V"⟩
def RX8 : String := "FoldedHeaps$Splitting"
def TX8 : u_T := fun k => match k with
  | 0 => ("FoldedHeaps$Splitting", "wayNode", "I", false)
  | 1 => ("FoldedHeaps$Splitting", "wayBeside", "Z", false)
  | 2 => ("FoldedHeaps$Splitting", "met", "I", false)
  | _ => ("FoldedHeaps$Splitting", "sought", "I", false)
def tyX8 : Nat → FieldType := fun k => match k with
  | 0 => .int
  | 1 => .boolean
  | 2 => .int
  | _ => .int
abbrev wsX80 : List Cond := u_ws RX8 TX8 4
theorem nmX8 : ∀ a, a < 4 → ∀ b, b < 4 → a ≠ b → (TX8 a).2.1 ≠ (TX8 b).2.1 := by decide +kernel
theorem tyX8_ok : ∀ k, k < 4 → parseFieldDescriptor (TX8 k).2.2.1 = some (tyX8 k) := by decide +kernel
abbrev cX8_init : ByteArray := prog_10_method_1_code
def yX8_init : MethodName := ⟨RX8, "<init>", "()V"⟩
abbrev cX8_number : ByteArray := prog_10_method_2_code
def yX8_number : MethodName := ⟨RX8, "number", "(LFoldedHeaps$Shape;I)I"⟩
abbrev cX8_apply : ByteArray := prog_10_method_3_code
def yX8_apply : MethodName := ⟨RX8, "apply", "(LFoldedHeaps$Shape;II)I"⟩
abbrev cX8_goThrough : ByteArray := prog_10_method_4_code
def yX8_goThrough : MethodName := ⟨RX8, "goThrough", "(LFoldedHeaps$Shape;II)V"⟩
abbrev cX8_meet : ByteArray := prog_10_method_5_code
def yX8_meet : MethodName := ⟨RX8, "meet", "(IZ)V"⟩
abbrev cX8_appendOthersOf : ByteArray := prog_10_method_6_code
def yX8_appendOthersOf : MethodName := ⟨RX8, "appendOthersOf", "(LFoldedHeaps$Shape;I)V"⟩
def RX9 : String := "FoldedHeaps$Tape"
def TX9 : u_T := fun k => match k with
  | 0 => ("FoldedHeaps$Tape", "bytes", "[B", true)
  | 1 => ("FoldedHeaps$Tape", "length", "I", false)
  | 2 => ("FoldedHeaps$Tape", "token", "I", false)
  | 3 => ("FoldedHeaps$Tape", "start", "I", false)
  | _ => ("FoldedHeaps$Tape", "stop", "I", false)
def tyX9 : Nat → FieldType := fun k => match k with
  | 0 => .array .byte
  | 1 => .int
  | 2 => .int
  | 3 => .int
  | _ => .int
abbrev wsX90 : List Cond := u_ws RX9 TX9 5
theorem nmX9 : ∀ a, a < 5 → ∀ b, b < 5 → a ≠ b → (TX9 a).2.1 ≠ (TX9 b).2.1 := by decide +kernel
theorem tyX9_ok : ∀ k, k < 5 → parseFieldDescriptor (TX9 k).2.2.1 = some (tyX9 k) := by decide +kernel
abbrev cX9_init : ByteArray := prog_11_method_1_code
def yX9_init : MethodName := ⟨RX9, "<init>", "()V"⟩
abbrev cX9_put : ByteArray := prog_11_method_2_code
def yX9_put : MethodName := ⟨RX9, "put", "(B)Z"⟩
abbrev cX9_rewind : ByteArray := prog_11_method_3_code
def yX9_rewind : MethodName := ⟨RX9, "rewind", "()V"⟩
abbrev cX9_advance : ByteArray := prog_11_method_4_code
def yX9_advance : MethodName := ⟨RX9, "advance", "()V"⟩
abbrev cX9_isSign : ByteArray := prog_11_method_5_code
def yX9_isSign : MethodName := ⟨RX9, "isSign", "(C)Z"⟩
abbrev cX9_isName : ByteArray := prog_11_method_6_code
def yX9_isName : MethodName := ⟨RX9, "isName", "(Ljava/lang/String;)Z"⟩
abbrev cX9_oneOfThree : ByteArray := prog_11_method_7_code
def yX9_oneOfThree : MethodName := ⟨RX9, "oneOfThree", "(C)I"⟩
abbrev cX9_number : ByteArray := prog_11_method_8_code
def yX9_number : MethodName := ⟨RX9, "number", "()I"⟩
def RX10 : String := "FoldedHeaps$Told"
def TX10 : u_T := fun k => match k with
  | 0 => ("FoldedHeaps$Told", "shape", "LFoldedHeaps$Shape;", true)
  | 1 => ("FoldedHeaps$Told", "formula", "[LFoldedHeaps$Formula;", true)
  | _ => ("FoldedHeaps$Told", "formulas", "I", false)
def tyX10 : Nat → FieldType := fun k => match k with
  | 0 => .object "FoldedHeaps$Shape"
  | 1 => .array (.object "FoldedHeaps$Formula")
  | _ => .int
abbrev wsX100 : List Cond := u_ws RX10 TX10 3
theorem nmX10 : ∀ a, a < 3 → ∀ b, b < 3 → a ≠ b → (TX10 a).2.1 ≠ (TX10 b).2.1 := by decide +kernel
theorem tyX10_ok : ∀ k, k < 3 → parseFieldDescriptor (TX10 k).2.2.1 = some (tyX10 k) := by decide +kernel
abbrev cX10_init : ByteArray := prog_12_method_1_code
def yX10_init : MethodName := ⟨RX10, "<init>", "()V"⟩
abbrev cX10_clear : ByteArray := prog_12_method_2_code
def yX10_clear : MethodName := ⟨RX10, "clear", "()V"⟩
abbrev cX10_itemsOfAll : ByteArray := prog_12_method_3_code
def yX10_itemsOfAll : MethodName := ⟨RX10, "itemsOfAll", "()I"⟩
def RX11 : String := "FoldedHeaps"
def TX11 : u_T := fun k => match k with
  | 0 => ("FoldedHeaps", "tape", "LFoldedHeaps$Tape;", true)
  | 1 => ("FoldedHeaps", "reader", "LFoldedHeaps$Reader;", true)
  | 2 => ("FoldedHeaps", "told", "LFoldedHeaps$Told;", false)
  | 3 => ("FoldedHeaps", "textFault", "I", false)
  | 4 => ("FoldedHeaps", "images", "[LFoldedHeaps$Shape;", true)
  | 5 => ("FoldedHeaps", "kept", "[Z", true)
  | 6 => ("FoldedHeaps", "sheets", "[LFoldedHeaps$Sheet;", true)
  | 7 => ("FoldedHeaps", "readFault", "I", false)
  | 8 => ("FoldedHeaps", "before", "LFoldedHeaps$Shape;", true)
  | 9 => ("FoldedHeaps", "deeds", "LFoldedHeaps$Deeds;", true)
  | 10 => ("FoldedHeaps", "folding", "LFoldedHeaps$Folding;", true)
  | 11 => ("FoldedHeaps", "sharpening", "LFoldedHeaps$Sharpening;", true)
  | 12 => ("FoldedHeaps", "splitting", "LFoldedHeaps$Splitting;", true)
  | _ => ("FoldedHeaps", "cover", "LFoldedHeaps$Cover;", true)
def tyX11 : Nat → FieldType := fun k => match k with
  | 0 => .object "FoldedHeaps$Tape"
  | 1 => .object "FoldedHeaps$Reader"
  | 2 => .object "FoldedHeaps$Told"
  | 3 => .int
  | 4 => .array (.object "FoldedHeaps$Shape")
  | 5 => .array .boolean
  | 6 => .array (.object "FoldedHeaps$Sheet")
  | 7 => .int
  | 8 => .object "FoldedHeaps$Shape"
  | 9 => .object "FoldedHeaps$Deeds"
  | 10 => .object "FoldedHeaps$Folding"
  | 11 => .object "FoldedHeaps$Sharpening"
  | 12 => .object "FoldedHeaps$Splitting"
  | _ => .object "FoldedHeaps$Cover"
abbrev wsX110 : List Cond := u_ws RX11 TX11 14
theorem nmX11 : ∀ a, a < 14 → ∀ b, b < 14 → a ≠ b → (TX11 a).2.1 ≠ (TX11 b).2.1 := by decide +kernel
theorem tyX11_ok : ∀ k, k < 14 → parseFieldDescriptor (TX11 k).2.2.1 = some (tyX11 k) := by decide +kernel
abbrev cX11_init : ByteArray := prog_1_method_1_code
def yX11_init : MethodName := ⟨RX11, "<init>", "()V"⟩
abbrev cX11_feed : ByteArray := prog_1_method_2_code
def yX11_feed : MethodName := ⟨RX11, "feed", "(I)I"⟩
abbrev cX11_end : ByteArray := prog_1_method_3_code
def yX11_end : MethodName := ⟨RX11, "end", "(I)I"⟩
abbrev cX11_text : ByteArray := prog_1_method_4_code
def yX11_text : MethodName := ⟨RX11, "text", "()I"⟩
abbrev cX11_fault : ByteArray := prog_1_method_5_code
def yX11_fault : MethodName := ⟨RX11, "fault", "()I"⟩
abbrev cX11_rule : ByteArray := prog_1_method_6_code
def yX11_rule : MethodName := ⟨RX11, "rule", "(I)I"⟩
abbrev cX11_node : ByteArray := prog_1_method_7_code
def yX11_node : MethodName := ⟨RX11, "node", "(II)I"⟩
abbrev cX11_pair : ByteArray := prog_1_method_8_code
def yX11_pair : MethodName := ⟨RX11, "pair", "(III)I"⟩
abbrev cX11_held : ByteArray := prog_1_method_9_code
def yX11_held : MethodName := ⟨RX11, "held", "(I)I"⟩
abbrev cX11_ask : ByteArray := prog_1_method_10_code
def yX11_ask : MethodName := ⟨RX11, "ask", "(I)I"⟩
abbrev cX11_formula : ByteArray := prog_1_method_11_code
def yX11_formula : MethodName := ⟨RX11, "formula", "(II)I"⟩
abbrev cX11_add : ByteArray := prog_1_method_12_code
def yX11_add : MethodName := ⟨RX11, "add", "(I)I"⟩
abbrev cX11_lose : ByteArray := prog_1_method_13_code
def yX11_lose : MethodName := ⟨RX11, "lose", "(I)I"⟩
abbrev cX11_many : ByteArray := prog_1_method_14_code
def yX11_many : MethodName := ⟨RX11, "many", "(II)I"⟩
abbrev cX11_place : ByteArray := prog_1_method_15_code
def yX11_place : MethodName := ⟨RX11, "place", "(III)I"⟩
abbrev cX11_lead : ByteArray := prog_1_method_16_code
def yX11_lead : MethodName := ⟨RX11, "lead", "(III)I"⟩
abbrev cX11_deed : ByteArray := prog_1_method_17_code
def yX11_deed : MethodName := ⟨RX11, "deed", "(III)I"⟩
abbrev cX11_fold : ByteArray := prog_1_method_18_code
def yX11_fold : MethodName := ⟨RX11, "fold", "(I)I"⟩
abbrev cX11_sharpen : ByteArray := prog_1_method_19_code
def yX11_sharpen : MethodName := ⟨RX11, "sharpen", "()I"⟩
abbrev cX11_ways : ByteArray := prog_1_method_20_code
def yX11_ways : MethodName := ⟨RX11, "ways", "(I)I"⟩
abbrev cX11_split : ByteArray := prog_1_method_21_code
def yX11_split : MethodName := ⟨RX11, "split", "(II)I"⟩
abbrev cX11_run : ByteArray := prog_1_method_22_code
def yX11_run : MethodName := ⟨RX11, "run", "(II)I"⟩
abbrev cX11_keep : ByteArray := prog_1_method_23_code
def yX11_keep : MethodName := ⟨RX11, "keep", "(I)I"⟩
abbrev cX11_back : ByteArray := prog_1_method_24_code
def yX11_back : MethodName := ⟨RX11, "back", "(I)I"⟩
abbrev cX11_covers : ByteArray := prog_1_method_25_code
def yX11_covers : MethodName := ⟨RX11, "covers", "(II)I"⟩
abbrev cX11_sheet : ByteArray := prog_1_method_26_code
def yX11_sheet : MethodName := ⟨RX11, "sheet", "(III)I"⟩
abbrev cX11_lay : ByteArray := prog_1_method_27_code
def yX11_lay : MethodName := ⟨RX11, "lay", "(III)I"⟩
abbrev cX11_read : ByteArray := prog_1_method_28_code
def yX11_read : MethodName := ⟨RX11, "read", "(IIII)I"⟩
abbrev cX11_torn : ByteArray := prog_1_method_29_code
def yX11_torn : MethodName := ⟨RX11, "torn", "()I"⟩
abbrev cX11_count : ByteArray := prog_1_method_30_code
def yX11_count : MethodName := ⟨RX11, "count", "(I)I"⟩
abbrev cX11_imagesKept : ByteArray := prog_1_method_31_code
def yX11_imagesKept : MethodName := ⟨RX11, "imagesKept", "()I"⟩
abbrev cX11_isVariable : ByteArray := prog_1_method_32_code
def yX11_isVariable : MethodName := ⟨RX11, "isVariable", "(I)Z"⟩
abbrev cX11_isTruth : ByteArray := prog_1_method_33_code
def yX11_isTruth : MethodName := ⟨RX11, "isTruth", "(I)Z"⟩
abbrev cX11_isSwitch : ByteArray := prog_1_method_34_code
def yX11_isSwitch : MethodName := ⟨RX11, "isSwitch", "(I)Z"⟩
abbrev cX11_isImage : ByteArray := prog_1_method_35_code
def yX11_isImage : MethodName := ⟨RX11, "isImage", "(I)Z"⟩
abbrev cX11_isSheet : ByteArray := prog_1_method_36_code
def yX11_isSheet : MethodName := ⟨RX11, "isSheet", "(I)Z"⟩
abbrev cX11_isLane : ByteArray := prog_1_method_37_code
def yX11_isLane : MethodName := ⟨RX11, "isLane", "(I)Z"⟩
def RX12 : String := "FoldedHeapsModel"
def TX12 : u_T := fun k => match k with
  | 0 => ("FoldedHeapsModel", "state", "[I", true)
  | 1 => ("FoldedHeapsModel", "forms", "[I", true)
  | 2 => ("FoldedHeapsModel", "formMany", "I", false)
  | 3 => ("FoldedHeapsModel", "formsRead", "[I", true)
  | 4 => ("FoldedHeapsModel", "formsReadMany", "I", false)
  | 5 => ("FoldedHeapsModel", "tape", "[I", true)
  | 6 => ("FoldedHeapsModel", "taped", "I", false)
  | 7 => ("FoldedHeapsModel", "fault", "I", false)
  | 8 => ("FoldedHeapsModel", "broken", "I", false)
  | 9 => ("FoldedHeapsModel", "brokenAt", "I", false)
  | 10 => ("FoldedHeapsModel", "spot", "I", false)
  | 11 => ("FoldedHeapsModel", "here", "I", false)
  | 12 => ("FoldedHeapsModel", "token", "I", false)
  | 13 => ("FoldedHeapsModel", "value", "I", false)
  | 14 => ("FoldedHeapsModel", "greatest", "I", false)
  | 15 => ("FoldedHeapsModel", "ends", "[I", true)
  | 16 => ("FoldedHeapsModel", "letters", "[I", true)
  | 17 => ("FoldedHeapsModel", "routes", "[I", true)
  | 18 => ("FoldedHeapsModel", "stands", "[I", true)
  | 19 => ("FoldedHeapsModel", "heap", "[I", true)
  | 20 => ("FoldedHeapsModel", "groups", "[I", true)
  | 21 => ("FoldedHeapsModel", "reaches", "[I", true)
  | 22 => ("FoldedHeapsModel", "isClash", "Z", false)
  | 23 => ("FoldedHeapsModel", "isKept", "[Z", true)
  | 24 => ("FoldedHeapsModel", "map", "[I", true)
  | 25 => ("FoldedHeapsModel", "lanes", "[I", true)
  | 26 => ("FoldedHeapsModel", "lengths", "[I", true)
  | 27 => ("FoldedHeapsModel", "cells", "[I", true)
  | _ => ("FoldedHeapsModel", "torn", "I", false)
def tyX12 : Nat → FieldType := fun k => match k with
  | 0 => .array .int
  | 1 => .array .int
  | 2 => .int
  | 3 => .array .int
  | 4 => .int
  | 5 => .array .int
  | 6 => .int
  | 7 => .int
  | 8 => .int
  | 9 => .int
  | 10 => .int
  | 11 => .int
  | 12 => .int
  | 13 => .int
  | 14 => .int
  | 15 => .array .int
  | 16 => .array .int
  | 17 => .array .int
  | 18 => .array .int
  | 19 => .array .int
  | 20 => .array .int
  | 21 => .array .int
  | 22 => .boolean
  | 23 => .array .boolean
  | 24 => .array .int
  | 25 => .array .int
  | 26 => .array .int
  | 27 => .array .int
  | _ => .int
abbrev wsX120 : List Cond := u_ws RX12 TX12 29
theorem nmX12 : ∀ a, a < 29 → ∀ b, b < 29 → a ≠ b → (TX12 a).2.1 ≠ (TX12 b).2.1 := by decide +kernel
theorem tyX12_ok : ∀ k, k < 29 → parseFieldDescriptor (TX12 k).2.2.1 = some (tyX12 k) := by decide +kernel
abbrev cX12_init : ByteArray := prog_14_method_1_code
def yX12_init : MethodName := ⟨RX12, "<init>", "()V"⟩
abbrev cX12_in : ByteArray := prog_14_method_3_code
def yX12_in : MethodName := ⟨RX12, "in", "(JJJ)Z"⟩
abbrev cX12_feed : ByteArray := prog_14_method_4_code
def yX12_feed : MethodName := ⟨RX12, "feed", "(I)I"⟩
abbrev cX12_end : ByteArray := prog_14_method_5_code
def yX12_end : MethodName := ⟨RX12, "end", "(I)I"⟩
abbrev cX12_byteAt : ByteArray := prog_14_method_6_code
def yX12_byteAt : MethodName := ⟨RX12, "byteAt", "(I)I"⟩
abbrev cX12_fails : ByteArray := prog_14_method_7_code
def yX12_fails : MethodName := ⟨RX12, "fails", "(I)V"⟩
abbrev cX12_nameHere : ByteArray := prog_14_method_8_code
def yX12_nameHere : MethodName := ⟨RX12, "nameHere", "()I"⟩
abbrev cX12_readsOn : ByteArray := prog_14_method_9_code
def yX12_readsOn : MethodName := ⟨RX12, "readsOn", "()V"⟩
abbrev cX12_letterRead : ByteArray := prog_14_method_10_code
def yX12_letterRead : MethodName := ⟨RX12, "letterRead", "(I)I"⟩
abbrev cX12_variableRead : ByteArray := prog_14_method_11_code
def yX12_variableRead : MethodName := ⟨RX12, "variableRead", "()I"⟩
abbrev cX12_nodeRead : ByteArray := prog_14_method_12_code
def yX12_nodeRead : MethodName := ⟨RX12, "nodeRead", "()I"⟩
abbrev cX12_truthRead : ByteArray := prog_14_method_13_code
def yX12_truthRead : MethodName := ⟨RX12, "truthRead", "()I"⟩
abbrev cX12_readNode : ByteArray := prog_14_method_14_code
def yX12_readNode : MethodName := ⟨RX12, "readNode", "(I)V"⟩
abbrev cX12_readTold : ByteArray := prog_14_method_15_code
def yX12_readTold : MethodName := ⟨RX12, "readTold", "(Z)V"⟩
abbrev cX12_readLetters : ByteArray := prog_14_method_16_code
def yX12_readLetters : MethodName := ⟨RX12, "readLetters", "(I)V"⟩
abbrev cX12_toldRead : ByteArray := prog_14_method_17_code
def yX12_toldRead : MethodName := ⟨RX12, "toldRead", "(I)I"⟩
abbrev cX12_readItem : ByteArray := prog_14_method_18_code
def yX12_readItem : MethodName := ⟨RX12, "readItem", "(II)I"⟩
abbrev cX12_readAsk : ByteArray := prog_14_method_19_code
def yX12_readAsk : MethodName := ⟨RX12, "readAsk", "()V"⟩
abbrev cX12_readLine : ByteArray := prog_14_method_20_code
def yX12_readLine : MethodName := ⟨RX12, "readLine", "()V"⟩
abbrev cX12_text : ByteArray := prog_14_method_21_code
def yX12_text : MethodName := ⟨RX12, "text", "()I"⟩
abbrev cX12_fault : ByteArray := prog_14_method_22_code
def yX12_fault : MethodName := ⟨RX12, "fault", "()I"⟩
abbrev cX12_copies : ByteArray := prog_14_method_23_code
def yX12_copies : MethodName := ⟨RX12, "copies", "(II)V"⟩
abbrev cX12_nodes : ByteArray := prog_14_method_24_code
def yX12_nodes : MethodName := ⟨RX12, "nodes", "()I"⟩
abbrev cX12_and : ByteArray := prog_14_method_25_code
def yX12_and : MethodName := ⟨RX12, "and", "(II)I"⟩
abbrev cX12_or : ByteArray := prog_14_method_26_code
def yX12_or : MethodName := ⟨RX12, "or", "(II)I"⟩
abbrev cX12_atOf : ByteArray := prog_14_method_27_code
def yX12_atOf : MethodName := ⟨RX12, "atOf", "(II)I"⟩
abbrev cX12_nextOf : ByteArray := prog_14_method_28_code
def yX12_nextOf : MethodName := ⟨RX12, "nextOf", "(II)I"⟩
abbrev cX12_sameOf : ByteArray := prog_14_method_29_code
def yX12_sameOf : MethodName := ⟨RX12, "sameOf", "(II)I"⟩
abbrev cX12_routesAll : ByteArray := prog_14_method_30_code
def yX12_routesAll : MethodName := ⟨RX12, "routesAll", "()V"⟩
abbrev cX12_reachOf : ByteArray := prog_14_method_31_code
def yX12_reachOf : MethodName := ⟨RX12, "reachOf", "(II)I"⟩
abbrev cX12_heldOf : ByteArray := prog_14_method_32_code
def yX12_heldOf : MethodName := ⟨RX12, "heldOf", "(I)I"⟩
abbrev cX12_manyOf : ByteArray := prog_14_method_33_code
def yX12_manyOf : MethodName := ⟨RX12, "manyOf", "(III)I"⟩
abbrev cX12_isHeap : ByteArray := prog_14_method_34_code
def yX12_isHeap : MethodName := ⟨RX12, "isHeap", "()Z"⟩
abbrev cX12_rule : ByteArray := prog_14_method_35_code
def yX12_rule : MethodName := ⟨RX12, "rule", "(I)I"⟩
abbrev cX12_isNode : ByteArray := prog_14_method_36_code
def yX12_isNode : MethodName := ⟨RX12, "isNode", "(I)Z"⟩
abbrev cX12_isVariable : ByteArray := prog_14_method_37_code
def yX12_isVariable : MethodName := ⟨RX12, "isVariable", "(I)Z"⟩
abbrev cX12_isFormula : ByteArray := prog_14_method_38_code
def yX12_isFormula : MethodName := ⟨RX12, "isFormula", "(I)Z"⟩
abbrev cX12_isFlag : ByteArray := prog_14_method_39_code
def yX12_isFlag : MethodName := ⟨RX12, "isFlag", "(I)Z"⟩
abbrev cX12_node : ByteArray := prog_14_method_40_code
def yX12_node : MethodName := ⟨RX12, "node", "(II)I"⟩
abbrev cX12_pair : ByteArray := prog_14_method_41_code
def yX12_pair : MethodName := ⟨RX12, "pair", "(III)I"⟩
abbrev cX12_held : ByteArray := prog_14_method_42_code
def yX12_held : MethodName := ⟨RX12, "held", "(I)I"⟩
abbrev cX12_told : ByteArray := prog_14_method_43_code
def yX12_told : MethodName := ⟨RX12, "told", "(I)I"⟩
abbrev cX12_itemsOf : ByteArray := prog_14_method_44_code
def yX12_itemsOf : MethodName := ⟨RX12, "itemsOf", "(I)I"⟩
abbrev cX12_joined : ByteArray := prog_14_method_45_code
def yX12_joined : MethodName := ⟨RX12, "joined", "(IIII)I"⟩
abbrev cX12_begins : ByteArray := prog_14_method_46_code
def yX12_begins : MethodName := ⟨RX12, "begins", "(II)I"⟩
abbrev cX12_thirdOf : ByteArray := prog_14_method_47_code
def yX12_thirdOf : MethodName := ⟨RX12, "thirdOf", "(I)I"⟩
abbrev cX12_secondOf : ByteArray := prog_14_method_48_code
def yX12_secondOf : MethodName := ⟨RX12, "secondOf", "(I)I"⟩
abbrev cX12_ask : ByteArray := prog_14_method_49_code
def yX12_ask : MethodName := ⟨RX12, "ask", "(I)I"⟩
abbrev cX12_formula : ByteArray := prog_14_method_50_code
def yX12_formula : MethodName := ⟨RX12, "formula", "(II)I"⟩
abbrev cX12_comes : ByteArray := prog_14_method_51_code
def yX12_comes : MethodName := ⟨RX12, "comes", "(I)V"⟩
abbrev cX12_add : ByteArray := prog_14_method_52_code
def yX12_add : MethodName := ⟨RX12, "add", "(I)I"⟩
abbrev cX12_movesDown : ByteArray := prog_14_method_53_code
def yX12_movesDown : MethodName := ⟨RX12, "movesDown", "(II)V"⟩
abbrev cX12_lose : ByteArray := prog_14_method_54_code
def yX12_lose : MethodName := ⟨RX12, "lose", "(I)I"⟩
abbrev cX12_becomes : ByteArray := prog_14_method_55_code
def yX12_becomes : MethodName := ⟨RX12, "becomes", "(ZII)I"⟩
abbrev cX12_many : ByteArray := prog_14_method_56_code
def yX12_many : MethodName := ⟨RX12, "many", "(II)I"⟩
abbrev cX12_place : ByteArray := prog_14_method_57_code
def yX12_place : MethodName := ⟨RX12, "place", "(III)I"⟩
abbrev cX12_lead : ByteArray := prog_14_method_58_code
def yX12_lead : MethodName := ⟨RX12, "lead", "(III)I"⟩
abbrev cX12_leads : ByteArray := prog_14_method_59_code
def yX12_leads : MethodName := ⟨RX12, "leads", "(IIZ)V"⟩
abbrev cX12_becomesNext : ByteArray := prog_14_method_60_code
def yX12_becomesNext : MethodName := ⟨RX12, "becomesNext", "(II)V"⟩
abbrev cX12_isAtAlone : ByteArray := prog_14_method_61_code
def yX12_isAtAlone : MethodName := ⟨RX12, "isAtAlone", "(II)V"⟩
abbrev cX12_does : ByteArray := prog_14_method_62_code
def yX12_does : MethodName := ⟨RX12, "does", "(III)I"⟩
abbrev cX12_deed : ByteArray := prog_14_method_63_code
def yX12_deed : MethodName := ⟨RX12, "deed", "(III)I"⟩
abbrev cX12_isAlike : ByteArray := prog_14_method_64_code
def yX12_isAlike : MethodName := ⟨RX12, "isAlike", "(III)Z"⟩
abbrev cX12_grouped : ByteArray := prog_14_method_65_code
def yX12_grouped : MethodName := ⟨RX12, "grouped", "(I)I"⟩
abbrev cX12_fold : ByteArray := prog_14_method_66_code
def yX12_fold : MethodName := ⟨RX12, "fold", "(I)I"⟩
abbrev cX12_isAlone : ByteArray := prog_14_method_67_code
def yX12_isAlone : MethodName := ⟨RX12, "isAlone", "(II)Z"⟩
abbrev cX12_isSharper : ByteArray := prog_14_method_68_code
def yX12_isSharper : MethodName := ⟨RX12, "isSharper", "()Z"⟩
abbrev cX12_sharpen : ByteArray := prog_14_method_69_code
def yX12_sharpen : MethodName := ⟨RX12, "sharpen", "()I"⟩
abbrev cX12_wayOf : ByteArray := prog_14_method_70_code
def yX12_wayOf : MethodName := ⟨RX12, "wayOf", "(II)I"⟩
abbrev cX12_ways : ByteArray := prog_14_method_71_code
def yX12_ways : MethodName := ⟨RX12, "ways", "(I)I"⟩
abbrev cX12_twins : ByteArray := prog_14_method_72_code
def yX12_twins : MethodName := ⟨RX12, "twins", "(II)V"⟩
abbrev cX12_split : ByteArray := prog_14_method_73_code
def yX12_split : MethodName := ⟨RX12, "split", "(II)I"⟩
abbrev cX12_run : ByteArray := prog_14_method_74_code
def yX12_run : MethodName := ⟨RX12, "run", "(II)I"⟩
abbrev cX12_keep : ByteArray := prog_14_method_75_code
def yX12_keep : MethodName := ⟨RX12, "keep", "(I)I"⟩
abbrev cX12_back : ByteArray := prog_14_method_76_code
def yX12_back : MethodName := ⟨RX12, "back", "(I)I"⟩
abbrev cX12_isLike : ByteArray := prog_14_method_77_code
def yX12_isLike : MethodName := ⟨RX12, "isLike", "(II)Z"⟩
abbrev cX12_isFitting : ByteArray := prog_14_method_78_code
def yX12_isFitting : MethodName := ⟨RX12, "isFitting", "(III)Z"⟩
abbrev cX12_isOnto : ByteArray := prog_14_method_79_code
def yX12_isOnto : MethodName := ⟨RX12, "isOnto", "(II)Z"⟩
abbrev cX12_isCovering : ByteArray := prog_14_method_80_code
def yX12_isCovering : MethodName := ⟨RX12, "isCovering", "(II)Z"⟩
abbrev cX12_covers : ByteArray := prog_14_method_81_code
def yX12_covers : MethodName := ⟨RX12, "covers", "(II)I"⟩
abbrev cX12_sheet : ByteArray := prog_14_method_82_code
def yX12_sheet : MethodName := ⟨RX12, "sheet", "(III)I"⟩
abbrev cX12_lay : ByteArray := prog_14_method_83_code
def yX12_lay : MethodName := ⟨RX12, "lay", "(III)I"⟩
abbrev cX12_read : ByteArray := prog_14_method_84_code
def yX12_read : MethodName := ⟨RX12, "read", "(IIII)I"⟩
abbrev cX12_torn : ByteArray := prog_14_method_85_code
def yX12_torn : MethodName := ⟨RX12, "torn", "()I"⟩
abbrev cX12_count : ByteArray := prog_14_method_86_code
def yX12_count : MethodName := ⟨RX12, "count", "(I)I"⟩
def RJx145de : String := "java/io/Serializable"
def TJx145de : u_T := fun k => match k with
  | _ => ("", "", "", false)
def tyJx145de : Nat → FieldType := fun k => match k with
  | _ => .int
abbrev wsJx145de0 : List Cond := u_ws RJx145de TJx145de 0
theorem nmJx145de : ∀ a, a < 0 → ∀ b, b < 0 → a ≠ b → (TJx145de a).2.1 ≠ (TJx145de b).2.1 := by decide +kernel
theorem tyJx145de_ok : ∀ k, k < 0 → parseFieldDescriptor (TJx145de k).2.2.1 = some (tyJx145de k) := by decide +kernel
def RJx9f9b0 : String := "java/lang/CharSequence"
def TJx9f9b0 : u_T := fun k => match k with
  | _ => ("", "", "", false)
def tyJx9f9b0 : Nat → FieldType := fun k => match k with
  | _ => .int
abbrev wsJx9f9b00 : List Cond := u_ws RJx9f9b0 TJx9f9b0 0
theorem nmJx9f9b0 : ∀ a, a < 0 → ∀ b, b < 0 → a ≠ b → (TJx9f9b0 a).2.1 ≠ (TJx9f9b0 b).2.1 := by decide +kernel
theorem tyJx9f9b0_ok : ∀ k, k < 0 → parseFieldDescriptor (TJx9f9b0 k).2.2.1 = some (tyJx9f9b0 k) := by decide +kernel
def RJxb160c : String := "java/lang/Comparable"
def TJxb160c : u_T := fun k => match k with
  | _ => ("", "", "", false)
def tyJxb160c : Nat → FieldType := fun k => match k with
  | _ => .int
abbrev wsJxb160c0 : List Cond := u_ws RJxb160c TJxb160c 0
theorem nmJxb160c : ∀ a, a < 0 → ∀ b, b < 0 → a ≠ b → (TJxb160c a).2.1 ≠ (TJxb160c b).2.1 := by decide +kernel
theorem tyJxb160c_ok : ∀ k, k < 0 → parseFieldDescriptor (TJxb160c k).2.2.1 = some (tyJxb160c k) := by decide +kernel
def RJ9 : String := "java/lang/Math"
def TJ9 : u_T := fun k => match k with
  | _ => ("", "", "", false)
def tyJ9 : Nat → FieldType := fun k => match k with
  | _ => .int
abbrev wsJ90 : List Cond := u_ws RJ9 TJ9 0
theorem nmJ9 : ∀ a, a < 0 → ∀ b, b < 0 → a ≠ b → (TJ9 a).2.1 ≠ (TJ9 b).2.1 := by decide +kernel
theorem tyJ9_ok : ∀ k, k < 0 → parseFieldDescriptor (TJ9 k).2.2.1 = some (tyJ9 k) := by decide +kernel
abbrev cJ9_max_7cf53 : ByteArray := prog_15_method_65_code
def yJ9_max_7cf53 : MethodName := ⟨RJ9, "max", "(II)I"⟩
abbrev cJ9_min_7cf53 : ByteArray := prog_15_method_69_code
def yJ9_min_7cf53 : MethodName := ⟨RJ9, "min", "(II)I"⟩
def RJ0 : String := "java/lang/String"
def TJ0 : u_T := fun k => match k with
  | _ => ("", "", "", false)
def tyJ0 : Nat → FieldType := fun k => match k with
  | _ => .int
abbrev wsJ00 : List Cond := u_ws RJ0 TJ0 0
theorem nmJ0 : ∀ a, a < 0 → ∀ b, b < 0 → a ≠ b → (TJ0 a).2.1 ≠ (TJ0 b).2.1 := by decide +kernel
theorem tyJ0_ok : ∀ k, k < 0 → parseFieldDescriptor (TJ0 k).2.2.1 = some (tyJ0 k) := by decide +kernel
abbrev cJ0_length_8abf5 : ByteArray := prog_16_method_54_code
def yJ0_length_8abf5 : MethodName := ⟨RJ0, "length", "()I"⟩
abbrev cJ0_charAt_5068e : ByteArray := prog_16_method_56_code
def yJ0_charAt_5068e : MethodName := ⟨RJ0, "charAt", "(I)C"⟩
abbrev cJ0_coder_7d493 : ByteArray := prog_16_method_152_code
def yJ0_coder_7d493 : MethodName := ⟨RJ0, "coder", "()B"⟩
abbrev cJ0_isLatin1_aae02 : ByteArray := prog_16_method_154_code
def yJ0_isLatin1_aae02 : MethodName := ⟨RJ0, "isLatin1", "()Z"⟩
abbrev cJ0_checkIndex_df160 : ByteArray := prog_16_method_155_code
def yJ0_checkIndex_df160 : MethodName := ⟨RJ0, "checkIndex", "(II)V"⟩
def RJ1 : String := "java/lang/StringLatin1"
def TJ1 : u_T := fun k => match k with
  | _ => ("", "", "", false)
def tyJ1 : Nat → FieldType := fun k => match k with
  | _ => .int
abbrev wsJ10 : List Cond := u_ws RJ1 TJ1 0
theorem nmJ1 : ∀ a, a < 0 → ∀ b, b < 0 → a ≠ b → (TJ1 a).2.1 ≠ (TJ1 b).2.1 := by decide +kernel
theorem tyJ1_ok : ∀ k, k < 0 → parseFieldDescriptor (TJ1 k).2.2.1 = some (tyJ1 k) := by decide +kernel
abbrev cJ1_charAt_3b067 : ByteArray := prog_17_method_2_code
def yJ1_charAt_3b067 : MethodName := ⟨RJ1, "charAt", "([BI)C"⟩
def RJ2 : String := "java/lang/StringUTF16"
def TJ2 : u_T := fun k => match k with
  | _ => ("", "", "", false)
def tyJ2 : Nat → FieldType := fun k => match k with
  | _ => .int
abbrev wsJ20 : List Cond := u_ws RJ2 TJ2 0
theorem nmJ2 : ∀ a, a < 0 → ∀ b, b < 0 → a ≠ b → (TJ2 a).2.1 ≠ (TJ2 b).2.1 := by decide +kernel
theorem tyJ2_ok : ∀ k, k < 0 → parseFieldDescriptor (TJ2 k).2.2.1 = some (tyJ2 k) := by decide +kernel
abbrev cJ2_getChar_3b067 : ByteArray := prog_18_method_5_code
def yJ2_getChar_3b067 : MethodName := ⟨RJ2, "getChar", "([BI)C"⟩
abbrev cJ2_length_9d52b : ByteArray := prog_18_method_6_code
def yJ2_length_9d52b : MethodName := ⟨RJ2, "length", "([B)I"⟩
abbrev cJ2_charAt_3b067 : ByteArray := prog_18_method_83_code
def yJ2_charAt_3b067 : MethodName := ⟨RJ2, "charAt", "([BI)C"⟩
abbrev cJ2_checkIndex_2214a : ByteArray := prog_18_method_91_code
def yJ2_checkIndex_2214a : MethodName := ⟨RJ2, "checkIndex", "(I[B)V"⟩
def RJ10 : String := "java/lang/System"
def TJ10 : u_T := fun k => match k with
  | _ => ("", "", "", false)
def tyJ10 : Nat → FieldType := fun k => match k with
  | _ => .int
abbrev wsJ100 : List Cond := u_ws RJ10 TJ10 0
theorem nmJ10 : ∀ a, a < 0 → ∀ b, b < 0 → a ≠ b → (TJ10 a).2.1 ≠ (TJ10 b).2.1 := by decide +kernel
theorem tyJ10_ok : ∀ k, k < 0 → parseFieldDescriptor (TJ10 k).2.2.1 = some (tyJ10 k) := by decide +kernel
def RJxfd54e : String := "java/lang/constant/Constable"
def TJxfd54e : u_T := fun k => match k with
  | _ => ("", "", "", false)
def tyJxfd54e : Nat → FieldType := fun k => match k with
  | _ => .int
abbrev wsJxfd54e0 : List Cond := u_ws RJxfd54e TJxfd54e 0
theorem nmJxfd54e : ∀ a, a < 0 → ∀ b, b < 0 → a ≠ b → (TJxfd54e a).2.1 ≠ (TJxfd54e b).2.1 := by decide +kernel
theorem tyJxfd54e_ok : ∀ k, k < 0 → parseFieldDescriptor (TJxfd54e k).2.2.1 = some (tyJxfd54e k) := by decide +kernel
def RJx3cf43 : String := "java/lang/constant/ConstantDesc"
def TJx3cf43 : u_T := fun k => match k with
  | _ => ("", "", "", false)
def tyJx3cf43 : Nat → FieldType := fun k => match k with
  | _ => .int
abbrev wsJx3cf430 : List Cond := u_ws RJx3cf43 TJx3cf43 0
theorem nmJx3cf43 : ∀ a, a < 0 → ∀ b, b < 0 → a ≠ b → (TJx3cf43 a).2.1 ≠ (TJx3cf43 b).2.1 := by decide +kernel
theorem tyJx3cf43_ok : ∀ k, k < 0 → parseFieldDescriptor (TJx3cf43 k).2.2.1 = some (tyJx3cf43 k) := by decide +kernel
def RJ7 : String := "java/util/Arrays"
def TJ7 : u_T := fun k => match k with
  | _ => ("", "", "", false)
def tyJ7 : Nat → FieldType := fun k => match k with
  | _ => .int
abbrev wsJ70 : List Cond := u_ws RJ7 TJ7 0
theorem nmJ7 : ∀ a, a < 0 → ∀ b, b < 0 → a ≠ b → (TJ7 a).2.1 ≠ (TJ7 b).2.1 := by decide +kernel
theorem tyJ7_ok : ∀ k, k < 0 → parseFieldDescriptor (TJ7 k).2.2.1 = some (tyJ7 k) := by decide +kernel
abbrev cJ7_fill_53178 : ByteArray := prog_20_method_103_code
def yJ7_fill_53178 : MethodName := ⟨RJ7, "fill", "([II)V"⟩
def RJ3 : String := "jdk/internal/util/Preconditions"
def TJ3 : u_T := fun k => match k with
  | _ => ("", "", "", false)
def tyJ3 : Nat → FieldType := fun k => match k with
  | _ => .int
abbrev wsJ30 : List Cond := u_ws RJ3 TJ3 0
theorem nmJ3 : ∀ a, a < 0 → ∀ b, b < 0 → a ≠ b → (TJ3 a).2.1 ≠ (TJ3 b).2.1 := by decide +kernel
theorem tyJ3_ok : ∀ k, k < 0 → parseFieldDescriptor (TJ3 k).2.2.1 = some (tyJ3 k) := by decide +kernel
abbrev cJ3_checkIndex_8e157 : ByteArray := prog_21_method_11_code
def yJ3_checkIndex_8e157 : MethodName := ⟨RJ3, "checkIndex", "(IILjava/util/function/BiFunction;)I"⟩
def RL : String := "FoldedHeapsLaw"
abbrev cL_law : ByteArray := code
def yL_law : MethodName := ⟨RL, "law", "([I)Z"⟩
abbrev vwCl : List vw_C := [(RX0, TX0, 2), (RX1, TX1, 1), (RX2, TX2, 2), (RX3, TX3, 11), (RX4, TX4, 5), (RX5, TX5, 6), (RX6, TX6, 3), (RX7, TX7, 4), (RX8, TX8, 4), (RX9, TX9, 5), (RX10, TX10, 3), (RX11, TX11, 14), (RX12, TX12, 29)]
