section P77
variable {s : State} {args : Array Value}
theorem kn_all (hts : ∀ w ∈ TB, w.before args s = true) : ∃ D : va_G, ∀ (c : Nat) (q : vw_C), vwCl[c]? = some q → u_Kn s q.1 q.2.1 q.2.2 (D.1 c) (D.2 c) := by
  obtain ⟨a0, b0, h0⟩ := u_known (C := RX0) (T := TX0) (N := 2) (n := 2) hts cok0.2.2.1 (hts _ ins_X0)
  obtain ⟨a1, b1, h1⟩ := u_known (C := RX1) (T := TX1) (N := 1) (n := 1) hts cok1.2.2.1 (hts _ ins_X1)
  obtain ⟨a2, b2, h2⟩ := u_known (C := RX2) (T := TX2) (N := 2) (n := 2) hts cok2.2.2.1 (hts _ ins_X2)
  obtain ⟨a3, b3, h3⟩ := u_known (C := RX3) (T := TX3) (N := 11) (n := 11) hts cok3.2.2.1 (hts _ ins_X3)
  obtain ⟨a4, b4, h4⟩ := u_known (C := RX4) (T := TX4) (N := 5) (n := 5) hts cok4.2.2.1 (hts _ ins_X4)
  obtain ⟨a5, b5, h5⟩ := u_known (C := RX5) (T := TX5) (N := 6) (n := 6) hts cok5.2.2.1 (hts _ ins_X5)
  obtain ⟨a6, b6, h6⟩ := u_known (C := RX6) (T := TX6) (N := 3) (n := 3) hts cok6.2.2.1 (hts _ ins_X6)
  obtain ⟨a7, b7, h7⟩ := u_known (C := RX7) (T := TX7) (N := 4) (n := 4) hts cok7.2.2.1 (hts _ ins_X7)
  obtain ⟨a8, b8, h8⟩ := u_known (C := RX8) (T := TX8) (N := 4) (n := 4) hts cok8.2.2.1 (hts _ ins_X8)
  obtain ⟨a9, b9, h9⟩ := u_known (C := RX9) (T := TX9) (N := 5) (n := 5) hts cok9.2.2.1 (hts _ ins_X9)
  obtain ⟨a10, b10, h10⟩ := u_known (C := RX10) (T := TX10) (N := 3) (n := 3) hts cok10.2.2.1 (hts _ ins_X10)
  obtain ⟨a11, b11, h11⟩ := u_known (C := RX11) (T := TX11) (N := 14) (n := 14) hts cok11.2.2.1 (hts _ ins_X11)
  obtain ⟨a12, b12, h12⟩ := u_known (C := RX12) (T := TX12) (N := 29) (n := 29) hts cok12.2.2.1 (hts _ ins_X12)
  have h : ∀ c : Nat, ∃ d : ClassId × (Nat → Nat), ∀ q : vw_C, vwCl[c]? = some q → u_Kn s q.1 q.2.1 q.2.2 d.1 d.2 := by
    intro c
    match c with
    | 0 => exact ⟨(a0, b0), fun q hq => by cases hq; exact h0⟩
    | 1 => exact ⟨(a1, b1), fun q hq => by cases hq; exact h1⟩
    | 2 => exact ⟨(a2, b2), fun q hq => by cases hq; exact h2⟩
    | 3 => exact ⟨(a3, b3), fun q hq => by cases hq; exact h3⟩
    | 4 => exact ⟨(a4, b4), fun q hq => by cases hq; exact h4⟩
    | 5 => exact ⟨(a5, b5), fun q hq => by cases hq; exact h5⟩
    | 6 => exact ⟨(a6, b6), fun q hq => by cases hq; exact h6⟩
    | 7 => exact ⟨(a7, b7), fun q hq => by cases hq; exact h7⟩
    | 8 => exact ⟨(a8, b8), fun q hq => by cases hq; exact h8⟩
    | 9 => exact ⟨(a9, b9), fun q hq => by cases hq; exact h9⟩
    | 10 => exact ⟨(a10, b10), fun q hq => by cases hq; exact h10⟩
    | 11 => exact ⟨(a11, b11), fun q hq => by cases hq; exact h11⟩
    | 12 => exact ⟨(a12, b12), fun q hq => by cases hq; exact h12⟩
    | c + 13 => exact ⟨(a0, b0), fun q hq => by simp [vwCl] at hq⟩
  obtain ⟨d, hd⟩ := Classical.axiomOfChoice h
  exact ⟨(fun c => (d c).1, fun c => (d c).2), fun c q hq => hd c q hq⟩
theorem ar_p {ty : FieldType} (h : (Cond.arrayClass ty).before args s = true) : ∃ c : ClassId, ArrOfT s c ty ∧ s.vm.findClass ("[" ++ ty.toString) = some c := by
  obtain ⟨c, k, comp, h1, h2, h3⟩ := Cond.arrayClass_spec h
  exact ⟨c, fun n z => ⟨fun k h => (by cases h), k, h2, comp, h3⟩, h1⟩
theorem ar_o {C : String} (h : (Cond.arrayOver (.object C)).before args s = true) : ∃ c : ClassId, ArrOfT s c (.object C) ∧ va_RA s c (.object C) := by
  obtain ⟨comp, c, k, h1, -, h3, h4, h5⟩ := Cond.arrayOver_spec h
  exact ⟨c, fun n z => ⟨fun k h => (by cases h), k, h3, comp, h4⟩, k, comp, h3, h4, h1, h5⟩
theorem ar_a {ty : FieldType} (h : (Cond.arrayOver (.array ty)).before args s = true) : ∃ c : ClassId, ArrOfT s c (.array ty) ∧ va_RA s c (.array ty) := by
  obtain ⟨comp, c, k, h1, -, h3, h4, h5⟩ := arrayOverA_spec h
  exact ⟨c, fun n z => ⟨fun k h => (by cases h), k, h3, comp, h4⟩, h5⟩
theorem ar_all (hts : ∀ w ∈ lw_tbl, w.before args s = true) : ∃ cA : Nat → ClassId, ∀ (k : Nat) (q : ClassId × FieldType), (tysOf cA)[k]? = some q → ArrOfT s q.1 q.2 ∧ va_RA s q.1 q.2 := by
  have hT : ∀ w ∈ TB, w.before args s = true := fun w hw => hts w (List.mem_filter.mp hw).1
  obtain ⟨c0, x0, y0⟩ := ar_p (hT _ (acW_in _ (List.mem_of_getElem? (i := 0) rfl)))
  obtain ⟨c1, x1, y1⟩ := ar_p (hT _ (acW_in _ (List.mem_of_getElem? (i := 1) rfl)))
  obtain ⟨c2, x2, y2⟩ := ar_p (hT _ (acW_in _ (List.mem_of_getElem? (i := 2) rfl)))
  obtain ⟨c3, x3, y3⟩ := ar_a (hts _ (tb_E _ (List.mem_of_getElem? (i := 7) rfl)))
  obtain ⟨c4, x4, y4⟩ := ar_o (hts _ (tb_E _ (List.mem_of_getElem? (i := 4) rfl)))
  obtain ⟨c5, x5, y5⟩ := ar_o (hts _ (tb_E _ (List.mem_of_getElem? (i := 5) rfl)))
  obtain ⟨c6, x6, y6⟩ := ar_o (hts _ (tb_E _ (List.mem_of_getElem? (i := 6) rfl)))
  refine ⟨fun k => [c0, c1, c2, c3, c4, c5, c6].getD k c0, fun k q hq => ?_⟩
  match k, hq with
  | 0, hq => cases hq; exact ⟨x0, y0⟩
  | 1, hq => cases hq; exact ⟨x1, y1⟩
  | 2, hq => cases hq; exact ⟨x2, y2⟩
  | 3, hq => cases hq; exact ⟨x3, y3⟩
  | 4, hq => cases hq; exact ⟨x4, y4⟩
  | 5, hq => cases hq; exact ⟨x5, y5⟩
  | 6, hq => cases hq; exact ⟨x6, y6⟩
  | k + 7, hq => simp [tysOf] at hq
theorem En_0 {b L : Nat} {xs : Nat → Int32} (l : Launch) (hts : ∀ w ∈ lw_tbl, w.before args s = true) (hgv : (Jvm.Cond.and given_1 narrow_1).before args s = true) (hX : va_X b L xs s s.heap) (hbl : b < s.heap.size) : ∃ (D : va_G) (cA : Nat → ClassId) (adK adV : Nat → Nat), En (l, s.heap.size, D, cA, adK, adV, (b, L, xs)) s := by
  have hf : ∀ w ∈ FL, w.before args s = true := flat_of_before _ hgv
  have hA : ∀ a : Nat, a < s.heap.size → ¬ (fun q : Nat => s.heap.size ≤ q) a := fun a h => Nat.not_le.mpr h
  obtain ⟨D, hD⟩ := kn_all (fun w hw => hts w (List.mem_filter.mp hw).1)
  obtain ⟨cA, hcA⟩ := ar_all hts
  obtain ⟨adK, adV, hS, hK⟩ := vk_Sof (N := 13) (tm := tmS) (len := strN) (byt := strB) (A := fun q : Nat => s.heap.size ≤ q) (by decide +kernel) (fun i hi => hf _ (fl_ex i hi)) (fun i hi => hf _ (fl_co i hi)) (fun i hi => hf _ (fl_ar i hi)) (fun i hi => hf _ (fl_le i hi)) (fun i hi j hj => hf _ (fl_el i hi j hj)) (fun i j hi hj hij => (fl_ne i hi j hj hij).elim (fun h => Or.inl (hf _ h)) (fun h => Or.inr (hf _ h))) hA
  refine ⟨D, cA, adK, adV, Nat.le_refl _, ⟨hD, hcA⟩, fun w hw => ?_, ⟨va_AO.of (hts _ (tb_E _ (List.mem_of_getElem? (i := 4) rfl))), va_AO.of (hts _ (tb_E _ (List.mem_of_getElem? (i := 5) rfl))), va_AO.of (hts _ (tb_E _ (List.mem_of_getElem? (i := 6) rfl))), hts _ (tb_E _ (List.mem_of_getElem? (i := 7) rfl))⟩, fun i hi => vk_R.of (hts _ (tb_str i hi)) (hK i hi), hS, va_Zof (hts _ (tb_E _ (List.mem_of_getElem? (i := 0) rfl))) (hts _ (tb_E _ (List.mem_of_getElem? (i := 1) rfl))) (va_eqt (hf _ fl_cs)) hA, va_Zqof (hts _ (tb_E _ (List.mem_of_getElem? (i := 2) rfl))) (hts _ (tb_E _ (List.mem_of_getElem? (i := 3) rfl))) (hf _ fl_sf) hA, hX, hbl⟩
  have h := hts w (tb_nest w hw)
  simp only [nestW, List.mem_cons, List.not_mem_nil, or_false] at hw
  rcases hw with rfl | rfl | rfl | rfl | rfl | rfl | rfl | rfl | rfl | rfl | rfl | rfl | rfl | rfl <;> exact va_Nw.of rfl h
end P77
