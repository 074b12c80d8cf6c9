/-- what the Statement gives of the start, part by part -/
def FL : List Cond := flatC (Jvm.Cond.and given_1 narrow_1)
def tmS (i : Nat) : Term := .string RX4 (strI.getD i 0)
abbrev sv : String := "java/lang/String"
theorem fl_ex : ∀ i, i < 13 → Cond.exactly (tmS i) sv ∈ FL := by decide +kernel
theorem fl_co : ∀ i, i < 13 → Cond.eq (.field (tmS i) sv "coder" "B") (.int 0) ∈ FL := by decide +kernel
theorem fl_ar : ∀ i, i < 13 → Cond.arrayOf (.field (tmS i) sv "value" "[B") .byte ∈ FL := by decide +kernel
theorem fl_le : ∀ i, i < 13 → Cond.eq (.length (.field (tmS i) sv "value" "[B")) (.int (Int32.ofNat (strN.getD i 0))) ∈ FL := by decide +kernel
theorem fl_el : ∀ i, i < 13 → ∀ j, j < strN.getD i 0 → Cond.eq (.elem (.field (tmS i) sv "value" "[B") (.int (Int32.ofNat j))) (.int ((strB.getD i []).getD j 0)) ∈ FL := by decide +kernel
def isNE (c : Cond) : Bool := match c with
  | .not (.eq (.string _ _) (.string _ _)) => true
  | _ => false
def FNl : List Cond := (List.range 13).flatMap (fun j => (List.range j).map (fun i => Cond.not (Cond.eq (tmS i) (tmS j))))
theorem fl_nl : FNl = FL.filter isNE := by decide +kernel
theorem fl_n1 {i j : Nat} (hj : j < 13) (h : i < j) : Cond.not (Cond.eq (tmS i) (tmS j)) ∈ FL := by
  have h1 : Cond.not (Cond.eq (tmS i) (tmS j)) ∈ FNl := List.mem_flatMap.mpr ⟨j, List.mem_range.mpr hj, List.mem_map.mpr ⟨i, List.mem_range.mpr h, rfl⟩⟩
  rw [fl_nl] at h1
  exact (List.mem_filter.mp h1).1
theorem fl_ne : ∀ i, i < 13 → ∀ j, j < 13 → i ≠ j → (Cond.not (Cond.eq (tmS i) (tmS j)) ∈ FL ∨ Cond.not (Cond.eq (tmS j) (tmS i)) ∈ FL) := fun i hi j hj h => (Nat.lt_or_gt_of_ne h).elim (fun h => Or.inl (fl_n1 hj h)) (fun h => Or.inr (fl_n1 hi h))
theorem fl_cs : Cond.eq (.static sv "COMPACT_STRINGS" "Z") (.int 1) ∈ FL := by decide +kernel
theorem fl_sf : Cond.isRef (.static "jdk/internal/util/Preconditions" "SIOOBE_FORMATTER" "Ljava/util/function/BiFunction;") ∈ FL := by decide +kernel
theorem tb_nest : ∀ w ∈ nestW, w ∈ lw_tbl := by decide +kernel
theorem tb_str : ∀ i, i < 13 → Cond.stringRef RX4 (strI.getD i 0) (strT.getD i "") ∈ lw_tbl := by decide +kernel
def wsE : List Cond := [.laysStatic sv "COMPACT_STRINGS" "Z", .initialized sv, .laysStatic "jdk/internal/util/Preconditions" "SIOOBE_FORMATTER" "Ljava/util/function/BiFunction;", .initialized "jdk/internal/util/Preconditions", .arrayOver (.object RX5), .arrayOver (.object RX3), .arrayOver (.object RX7), .arrayOver (.array .int)]
theorem tb_E : ∀ w ∈ wsE, w ∈ lw_tbl := by decide +kernel
