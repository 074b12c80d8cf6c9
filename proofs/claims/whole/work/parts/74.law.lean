/-- both objects tell the same -/
def LI (μ : mM) (f : Nat → Nat → Int32) (x t u : Nat) (σ : aS) : Prop := WC μ x t u ∧ WF12 μ (x + 260) ∧ CI f x t σ ∧ MI f (x + 260) σ ∧ OKs σ
section P74
variable {X : cX} {μ : mM} {K : Option Value → mM → Prop} {f : Nat → Nat → Int32} {x t u i : Nat} {σ : aS}
theorem L_feed (h : LI μ f x t u σ) (h31 : X.2.2.2.2.2.2.2.1 < 2 ^ 31) (hb1 : i + 1 < X.2.2.2.2.2.2.2.1) (hN : ∀ ν f' t' u' σ', LI ν f' x t' u' σ' → G X room_1 mL_law 1001 [(0, .ref X.2.2.2.2.2.2.1), (1, .ref x), (2, .ref (x + 260)), (3, .int (nI i))] [] (sI ν f') 600000 7302250 K) : Ct X (Rm 12) mX11_feed [.ref x, .int (X.2.2.2.2.2.2.2.2 (i + 1))] (sI μ f) (fun r μ2 => G X room_1 mL_law 173 [(0, .ref X.2.2.2.2.2.2.1), (1, .ref x), (2, .ref (x + 260)), (3, .int (nI i))] (r.toList ++ []) μ2 (600000 + (Rm 12).cells) (7302250 + (Rm 12).slots) K) := by
  obtain ⟨hW, hw, hC, hM, hO⟩ := h
  obtain ⟨j1, hj1, e1⟩ := nI_surj (X.2.2.2.2.2.2.2.2 (i + 1))
  rw [e1]
  refine C_feed (d := 11) hW hC hO hj1 (fun f1 F1 C1 => ?_)
  refine b_L_law_173 (R' := Rm 12) hb1 h31 hw.1 ⟨Nat.le_of_ble_eq_true rfl, Nat.le_of_ble_eq_true rfl, Nat.le_of_ble_eq_true rfl, Nat.le_of_ble_eq_true rfl⟩ ?_
  rw [e1]
  refine M_feed (d := 11) hw (hM.fr F1) hO hj1 (fun f2 F2 M2 => ?_)
  exact b_L_law_182 (R' := Rm 12) (fun _ => hN _ _ _ _ _ ⟨hW, hw, (C1.fr F2 hW.t2 (ok_feed hO).2.2.1.1), M2, (ok_feed hO)⟩) (fun h => absurd rfl h) rfl rfl
theorem L_end (h : LI μ f x t u σ) (h31 : X.2.2.2.2.2.2.2.1 < 2 ^ 31) (hb1 : i + 1 < X.2.2.2.2.2.2.2.1) (hN : ∀ ν f' t' u' σ', LI ν f' x t' u' σ' → G X room_1 mL_law 1001 [(0, .ref X.2.2.2.2.2.2.1), (1, .ref x), (2, .ref (x + 260)), (3, .int (nI i))] [] (sI ν f') 600000 7302250 K) : Ct X (Rm 12) mX11_end [.ref x, .int (X.2.2.2.2.2.2.2.2 (i + 1))] (sI μ f) (fun r μ2 => G X room_1 mL_law 196 [(0, .ref X.2.2.2.2.2.2.1), (1, .ref x), (2, .ref (x + 260)), (3, .int (nI i))] (r.toList ++ []) μ2 (600000 + (Rm 12).cells) (7302250 + (Rm 12).slots) K) := by
  obtain ⟨hW, hw, hC, hM, hO⟩ := h
  obtain ⟨j1, hj1, e1⟩ := nI_surj (X.2.2.2.2.2.2.2.2 (i + 1))
  rw [e1]
  refine C_end (d := 12) hW hC hO hj1 (fun f1 F1 C1 => ?_)
  refine b_L_law_196 (R' := Rm 12) hb1 h31 hw.1 ⟨Nat.le_of_ble_eq_true rfl, Nat.le_of_ble_eq_true rfl, Nat.le_of_ble_eq_true rfl, Nat.le_of_ble_eq_true rfl⟩ ?_
  rw [e1]
  refine M_end (d := 11) hw (hM.fr F1) hO hj1 (fun f2 F2 M2 => ?_)
  exact b_L_law_205 (R' := Rm 12) (fun _ => hN _ _ _ _ _ ⟨hW, hw, (C1.fr F2 hW.t2 (ok_end hO).2.2.1.1), M2, (ok_end hO)⟩) (fun h => absurd rfl h) rfl rfl
theorem L_text (h : LI μ f x t u σ)  (hN : ∀ ν f' t' u' σ', LI ν f' x t' u' σ' → G X room_1 mL_law 1001 [(0, .ref X.2.2.2.2.2.2.1), (1, .ref x), (2, .ref (x + 260)), (3, .int (nI i))] [] (sI ν f') 600000 7302250 K) : Ct X (Rm 12) mX11_text [.ref x] (sI μ f) (fun r μ2 => G X room_1 mL_law 214 [(0, .ref X.2.2.2.2.2.2.1), (1, .ref x), (2, .ref (x + 260)), (3, .int (nI i))] (r.toList ++ []) μ2 (600000 + (Rm 12).cells) (7302250 + (Rm 12).slots) K) := by
  obtain ⟨hW, hw, hC, hM, hO⟩ := h
  refine C_text (d := 2) hW hC hO  (fun f1 ν t1 u1 R1 W1 F1 C1 => ?_)
  refine b_L_law_214 (R' := Rm 12)  (hw.mr R1 (by omega)).1 ⟨Nat.le_of_ble_eq_true rfl, Nat.le_of_ble_eq_true rfl, Nat.le_of_ble_eq_true rfl, Nat.le_of_ble_eq_true rfl⟩ ?_
  refine M_text (d := 6) (hw.mr R1 (by omega)) (hM.fr F1) hO  (fun f2 F2 M2 => ?_)
  exact b_L_law_218 (R' := Rm 12) (fun _ => hN _ _ _ _ _ ⟨W1, (hw.mr R1 (by omega)), (C1.fr F2 W1.t2 (ok_text hO).2.2.1.1), M2, (ok_text hO)⟩) (fun h => absurd rfl h) rfl rfl
theorem L_fault (h : LI μ f x t u σ)  (hN : ∀ ν f' t' u' σ', LI ν f' x t' u' σ' → G X room_1 mL_law 1001 [(0, .ref X.2.2.2.2.2.2.1), (1, .ref x), (2, .ref (x + 260)), (3, .int (nI i))] [] (sI ν f') 600000 7302250 K) : Ct X (Rm 12) mX11_fault [.ref x] (sI μ f) (fun r μ2 => G X room_1 mL_law 227 [(0, .ref X.2.2.2.2.2.2.1), (1, .ref x), (2, .ref (x + 260)), (3, .int (nI i))] (r.toList ++ []) μ2 (600000 + (Rm 12).cells) (7302250 + (Rm 12).slots) K) := by
  obtain ⟨hW, hw, hC, hM, hO⟩ := h
  refine C_fault (d := 12) hW hC  ?_
  refine b_L_law_227 (R' := Rm 12)  hw.1 ⟨Nat.le_of_ble_eq_true rfl, Nat.le_of_ble_eq_true rfl, Nat.le_of_ble_eq_true rfl, Nat.le_of_ble_eq_true rfl⟩ ?_
  refine M_fault (d := 12) hw hM  ?_
  exact b_L_law_231 (R' := Rm 12) (fun _ => hN _ _ _ _ _ ⟨hW, hw, hC, hM, hO⟩) (fun h => absurd rfl h) rfl rfl
theorem L_rule (h : LI μ f x t u σ) (h31 : X.2.2.2.2.2.2.2.1 < 2 ^ 31) (hb1 : i + 1 < X.2.2.2.2.2.2.2.1) (hN : ∀ ν f' t' u' σ', LI ν f' x t' u' σ' → G X room_1 mL_law 1001 [(0, .ref X.2.2.2.2.2.2.1), (1, .ref x), (2, .ref (x + 260)), (3, .int (nI i))] [] (sI ν f') 600000 7302250 K) : Ct X (Rm 12) mX11_rule [.ref x, .int (X.2.2.2.2.2.2.2.2 (i + 1))] (sI μ f) (fun r μ2 => G X room_1 mL_law 245 [(0, .ref X.2.2.2.2.2.2.1), (1, .ref x), (2, .ref (x + 260)), (3, .int (nI i))] (r.toList ++ []) μ2 (600000 + (Rm 12).cells) (7302250 + (Rm 12).slots) K) := by
  obtain ⟨hW, hw, hC, hM, hO⟩ := h
  obtain ⟨j1, hj1, e1⟩ := nI_surj (X.2.2.2.2.2.2.2.2 (i + 1))
  rw [e1]
  refine C_rule (d := 9) hW hC hO hj1 ?_
  refine b_L_law_245 (R' := Rm 12) hb1 h31 hw.1 ⟨Nat.le_of_ble_eq_true rfl, Nat.le_of_ble_eq_true rfl, Nat.le_of_ble_eq_true rfl, Nat.le_of_ble_eq_true rfl⟩ ?_
  rw [e1]
  refine M_rule (d := 10) hw hM hO hj1 ?_
  exact b_L_law_254 (R' := Rm 12) (fun _ => hN _ _ _ _ _ ⟨hW, hw, hC, hM, hO⟩) (fun h => absurd rfl h) rfl rfl
theorem L_node (h : LI μ f x t u σ) (h31 : X.2.2.2.2.2.2.2.1 < 2 ^ 31) (hb1 : i + 1 < X.2.2.2.2.2.2.2.1) (hb2 : i + 2 < X.2.2.2.2.2.2.2.1) (hN : ∀ ν f' t' u' σ', LI ν f' x t' u' σ' → G X room_1 mL_law 1001 [(0, .ref X.2.2.2.2.2.2.1), (1, .ref x), (2, .ref (x + 260)), (3, .int (nI i))] [] (sI ν f') 600000 7302250 K) : Ct X (Rm 12) mX11_node [.ref x, .int (X.2.2.2.2.2.2.2.2 (i + 1)), .int (X.2.2.2.2.2.2.2.2 (i + 2))] (sI μ f) (fun r μ2 => G X room_1 mL_law 273 [(0, .ref X.2.2.2.2.2.2.1), (1, .ref x), (2, .ref (x + 260)), (3, .int (nI i))] (r.toList ++ []) μ2 (600000 + (Rm 12).cells) (7302250 + (Rm 12).slots) K) := by
  obtain ⟨hW, hw, hC, hM, hO⟩ := h
  obtain ⟨j1, hj1, e1⟩ := nI_surj (X.2.2.2.2.2.2.2.2 (i + 1))
  obtain ⟨j2, hj2, e2⟩ := nI_surj (X.2.2.2.2.2.2.2.2 (i + 2))
  rw [e1, e2]
  refine C_node (d := 9) hW hC hO hj1 hj2 (fun f1 F1 C1 => ?_)
  refine b_L_law_273 (R' := Rm 12) hb1 h31 hb2 hw.1 ⟨Nat.le_of_ble_eq_true rfl, Nat.le_of_ble_eq_true rfl, Nat.le_of_ble_eq_true rfl, Nat.le_of_ble_eq_true rfl⟩ ?_
  rw [e1, e2]
  refine M_node (d := 10) hw (hM.fr F1) hO hj1 hj2 (fun f2 F2 M2 => ?_)
  exact b_L_law_287 (R' := Rm 12) (fun _ => hN _ _ _ _ _ ⟨hW, hw, (C1.fr F2 hW.t2 hO.2.2.1.1), M2, hO⟩) (fun h => absurd rfl h) rfl rfl
theorem L_pair (h : LI μ f x t u σ) (h31 : X.2.2.2.2.2.2.2.1 < 2 ^ 31) (hb1 : i + 1 < X.2.2.2.2.2.2.2.1) (hb2 : i + 2 < X.2.2.2.2.2.2.2.1) (hb3 : i + 3 < X.2.2.2.2.2.2.2.1) (hN : ∀ ν f' t' u' σ', LI ν f' x t' u' σ' → G X room_1 mL_law 1001 [(0, .ref X.2.2.2.2.2.2.1), (1, .ref x), (2, .ref (x + 260)), (3, .int (nI i))] [] (sI ν f') 600000 7302250 K) : Ct X (Rm 12) mX11_pair [.ref x, .int (X.2.2.2.2.2.2.2.2 (i + 1)), .int (X.2.2.2.2.2.2.2.2 (i + 2)), .int (X.2.2.2.2.2.2.2.2 (i + 3))] (sI μ f) (fun r μ2 => G X room_1 mL_law 311 [(0, .ref X.2.2.2.2.2.2.1), (1, .ref x), (2, .ref (x + 260)), (3, .int (nI i))] (r.toList ++ []) μ2 (600000 + (Rm 12).cells) (7302250 + (Rm 12).slots) K) := by
  obtain ⟨hW, hw, hC, hM, hO⟩ := h
  obtain ⟨j1, hj1, e1⟩ := nI_surj (X.2.2.2.2.2.2.2.2 (i + 1))
  obtain ⟨j2, hj2, e2⟩ := nI_surj (X.2.2.2.2.2.2.2.2 (i + 2))
  obtain ⟨j3, hj3, e3⟩ := nI_surj (X.2.2.2.2.2.2.2.2 (i + 3))
  rw [e1, e2, e3]
  refine C_pair (d := 9) hW hC hO hj1 hj2 hj3 (fun f1 F1 C1 => ?_)
  refine b_L_law_311 (R' := Rm 12) hb1 h31 hb2 hb3 hw.1 ⟨Nat.le_of_ble_eq_true rfl, Nat.le_of_ble_eq_true rfl, Nat.le_of_ble_eq_true rfl, Nat.le_of_ble_eq_true rfl⟩ ?_
  rw [e1, e2, e3]
  refine M_pair (d := 10) hw (hM.fr F1) hO hj1 hj2 hj3 (fun f2 F2 M2 => ?_)
  exact b_L_law_330 (R' := Rm 12) (fun _ => hN _ _ _ _ _ ⟨hW, hw, (C1.fr F2 hW.t2 hO.2.2.1.1), M2, hO⟩) (fun h => absurd rfl h) rfl rfl
theorem L_held (h : LI μ f x t u σ) (h31 : X.2.2.2.2.2.2.2.1 < 2 ^ 31) (hb1 : i + 1 < X.2.2.2.2.2.2.2.1) (hN : ∀ ν f' t' u' σ', LI ν f' x t' u' σ' → G X room_1 mL_law 1001 [(0, .ref X.2.2.2.2.2.2.1), (1, .ref x), (2, .ref (x + 260)), (3, .int (nI i))] [] (sI ν f') 600000 7302250 K) : Ct X (Rm 12) mX11_held [.ref x, .int (X.2.2.2.2.2.2.2.2 (i + 1))] (sI μ f) (fun r μ2 => G X room_1 mL_law 344 [(0, .ref X.2.2.2.2.2.2.1), (1, .ref x), (2, .ref (x + 260)), (3, .int (nI i))] (r.toList ++ []) μ2 (600000 + (Rm 12).cells) (7302250 + (Rm 12).slots) K) := by
  obtain ⟨hW, hw, hC, hM, hO⟩ := h
  obtain ⟨j1, hj1, e1⟩ := nI_surj (X.2.2.2.2.2.2.2.2 (i + 1))
  rw [e1]
  refine C_held (d := 10) hW hC hO hj1 ?_
  refine b_L_law_344 (R' := Rm 12) hb1 h31 hw.1 ⟨Nat.le_of_ble_eq_true rfl, Nat.le_of_ble_eq_true rfl, Nat.le_of_ble_eq_true rfl, Nat.le_of_ble_eq_true rfl⟩ ?_
  rw [e1]
  refine M_held (d := 10) hw hM hO hj1 ?_
  exact b_L_law_353 (R' := Rm 12) (fun _ => hN _ _ _ _ _ ⟨hW, hw, hC, hM, hO⟩) (fun h => absurd rfl h) rfl rfl
theorem L_ask (h : LI μ f x t u σ) (h31 : X.2.2.2.2.2.2.2.1 < 2 ^ 31) (hb1 : i + 1 < X.2.2.2.2.2.2.2.1) (hN : ∀ ν f' t' u' σ', LI ν f' x t' u' σ' → G X room_1 mL_law 1001 [(0, .ref X.2.2.2.2.2.2.1), (1, .ref x), (2, .ref (x + 260)), (3, .int (nI i))] [] (sI ν f') 600000 7302250 K) : Ct X (Rm 12) mX11_ask [.ref x, .int (X.2.2.2.2.2.2.2.2 (i + 1))] (sI μ f) (fun r μ2 => G X room_1 mL_law 367 [(0, .ref X.2.2.2.2.2.2.1), (1, .ref x), (2, .ref (x + 260)), (3, .int (nI i))] (r.toList ++ []) μ2 (600000 + (Rm 12).cells) (7302250 + (Rm 12).slots) K) := by
  obtain ⟨hW, hw, hC, hM, hO⟩ := h
  obtain ⟨j1, hj1, e1⟩ := nI_surj (X.2.2.2.2.2.2.2.2 (i + 1))
  rw [e1]
  refine C_ask (d := 4) hW hC hO hj1 (fun f1 F1 C1 => ?_)
  refine b_L_law_367 (R' := Rm 12) hb1 h31 hw.1 ⟨Nat.le_of_ble_eq_true rfl, Nat.le_of_ble_eq_true rfl, Nat.le_of_ble_eq_true rfl, Nat.le_of_ble_eq_true rfl⟩ ?_
  rw [e1]
  refine M_ask (d := 6) hw (hM.fr F1) hO hj1 (fun f2 F2 M2 => ?_)
  exact b_L_law_376 (R' := Rm 12) (fun _ => hN _ _ _ _ _ ⟨hW, hw, (C1.fr F2 hW.t2 hO.2.2.1.1), M2, hO⟩) (fun h => absurd rfl h) rfl rfl
theorem L_formula (h : LI μ f x t u σ) (h31 : X.2.2.2.2.2.2.2.1 < 2 ^ 31) (hb1 : i + 1 < X.2.2.2.2.2.2.2.1) (hb2 : i + 2 < X.2.2.2.2.2.2.2.1) (hN : ∀ ν f' t' u' σ', LI ν f' x t' u' σ' → G X room_1 mL_law 1001 [(0, .ref X.2.2.2.2.2.2.1), (1, .ref x), (2, .ref (x + 260)), (3, .int (nI i))] [] (sI ν f') 600000 7302250 K) : Ct X (Rm 12) mX11_formula [.ref x, .int (X.2.2.2.2.2.2.2.2 (i + 1)), .int (X.2.2.2.2.2.2.2.2 (i + 2))] (sI μ f) (fun r μ2 => G X room_1 mL_law 395 [(0, .ref X.2.2.2.2.2.2.1), (1, .ref x), (2, .ref (x + 260)), (3, .int (nI i))] (r.toList ++ []) μ2 (600000 + (Rm 12).cells) (7302250 + (Rm 12).slots) K) := by
  obtain ⟨hW, hw, hC, hM, hO⟩ := h
  obtain ⟨j1, hj1, e1⟩ := nI_surj (X.2.2.2.2.2.2.2.2 (i + 1))
  obtain ⟨j2, hj2, e2⟩ := nI_surj (X.2.2.2.2.2.2.2.2 (i + 2))
  rw [e1, e2]
  refine C_formula (d := 11) hW hC hO hj1 hj2 ?_
  refine b_L_law_395 (R' := Rm 12) hb1 h31 hb2 hw.1 ⟨Nat.le_of_ble_eq_true rfl, Nat.le_of_ble_eq_true rfl, Nat.le_of_ble_eq_true rfl, Nat.le_of_ble_eq_true rfl⟩ ?_
  rw [e1, e2]
  refine M_formula (d := 10) hw hM hO hj1 hj2 ?_
  exact b_L_law_409 (R' := Rm 12) (fun _ => hN _ _ _ _ _ ⟨hW, hw, hC, hM, hO⟩) (fun h => absurd rfl h) rfl rfl
theorem L_add (h : LI μ f x t u σ) (h31 : X.2.2.2.2.2.2.2.1 < 2 ^ 31) (hb1 : i + 1 < X.2.2.2.2.2.2.2.1) (hN : ∀ ν f' t' u' σ', LI ν f' x t' u' σ' → G X room_1 mL_law 1001 [(0, .ref X.2.2.2.2.2.2.1), (1, .ref x), (2, .ref (x + 260)), (3, .int (nI i))] [] (sI ν f') 600000 7302250 K) : Ct X (Rm 12) mX11_add [.ref x, .int (X.2.2.2.2.2.2.2.2 (i + 1))] (sI μ f) (fun r μ2 => G X room_1 mL_law 423 [(0, .ref X.2.2.2.2.2.2.1), (1, .ref x), (2, .ref (x + 260)), (3, .int (nI i))] (r.toList ++ []) μ2 (600000 + (Rm 12).cells) (7302250 + (Rm 12).slots) K) := by
  obtain ⟨hW, hw, hC, hM, hO⟩ := h
  obtain ⟨j1, hj1, e1⟩ := nI_surj (X.2.2.2.2.2.2.2.2 (i + 1))
  rw [e1]
  refine C_add (d := 11) hW hC hO hj1 (fun f1 F1 C1 => ?_)
  refine b_L_law_423 (R' := Rm 12) hb1 h31 hw.1 ⟨Nat.le_of_ble_eq_true rfl, Nat.le_of_ble_eq_true rfl, Nat.le_of_ble_eq_true rfl, Nat.le_of_ble_eq_true rfl⟩ ?_
  rw [e1]
  refine M_add (d := 10) hw (hM.fr F1) hO hj1 (fun f2 F2 M2 => ?_)
  exact b_L_law_432 (R' := Rm 12) (fun _ => hN _ _ _ _ _ ⟨hW, hw, (C1.fr F2 hW.t2 (ok_add hO).2.2.1.1), M2, (ok_add hO)⟩) (fun h => absurd rfl h) rfl rfl
theorem L_lose (h : LI μ f x t u σ) (h31 : X.2.2.2.2.2.2.2.1 < 2 ^ 31) (hb1 : i + 1 < X.2.2.2.2.2.2.2.1) (hN : ∀ ν f' t' u' σ', LI ν f' x t' u' σ' → G X room_1 mL_law 1001 [(0, .ref X.2.2.2.2.2.2.1), (1, .ref x), (2, .ref (x + 260)), (3, .int (nI i))] [] (sI ν f') 600000 7302250 K) : Ct X (Rm 12) mX11_lose [.ref x, .int (X.2.2.2.2.2.2.2.2 (i + 1))] (sI μ f) (fun r μ2 => G X room_1 mL_law 446 [(0, .ref X.2.2.2.2.2.2.1), (1, .ref x), (2, .ref (x + 260)), (3, .int (nI i))] (r.toList ++ []) μ2 (600000 + (Rm 12).cells) (7302250 + (Rm 12).slots) K) := by
  obtain ⟨hW, hw, hC, hM, hO⟩ := h
  obtain ⟨j1, hj1, e1⟩ := nI_surj (X.2.2.2.2.2.2.2.2 (i + 1))
  rw [e1]
  refine C_lose (d := 9) hW hC hO hj1 (fun f1 F1 C1 => ?_)
  refine b_L_law_446 (R' := Rm 12) hb1 h31 hw.1 ⟨Nat.le_of_ble_eq_true rfl, Nat.le_of_ble_eq_true rfl, Nat.le_of_ble_eq_true rfl, Nat.le_of_ble_eq_true rfl⟩ ?_
  rw [e1]
  refine M_lose (d := 10) hw (hM.fr F1) hO hj1 (fun f2 F2 M2 => ?_)
  exact b_L_law_455 (R' := Rm 12) (fun _ => hN _ _ _ _ _ ⟨hW, hw, (C1.fr F2 hW.t2 (ok_lose hO).2.2.1.1), M2, (ok_lose hO)⟩) (fun h => absurd rfl h) rfl rfl
theorem L_many (h : LI μ f x t u σ) (h31 : X.2.2.2.2.2.2.2.1 < 2 ^ 31) (hb1 : i + 1 < X.2.2.2.2.2.2.2.1) (hb2 : i + 2 < X.2.2.2.2.2.2.2.1) (hN : ∀ ν f' t' u' σ', LI ν f' x t' u' σ' → G X room_1 mL_law 1001 [(0, .ref X.2.2.2.2.2.2.1), (1, .ref x), (2, .ref (x + 260)), (3, .int (nI i))] [] (sI ν f') 600000 7302250 K) : Ct X (Rm 12) mX11_many [.ref x, .int (X.2.2.2.2.2.2.2.2 (i + 1)), .int (X.2.2.2.2.2.2.2.2 (i + 2))] (sI μ f) (fun r μ2 => G X room_1 mL_law 474 [(0, .ref X.2.2.2.2.2.2.1), (1, .ref x), (2, .ref (x + 260)), (3, .int (nI i))] (r.toList ++ []) μ2 (600000 + (Rm 12).cells) (7302250 + (Rm 12).slots) K) := by
  obtain ⟨hW, hw, hC, hM, hO⟩ := h
  obtain ⟨j1, hj1, e1⟩ := nI_surj (X.2.2.2.2.2.2.2.2 (i + 1))
  obtain ⟨j2, hj2, e2⟩ := nI_surj (X.2.2.2.2.2.2.2.2 (i + 2))
  rw [e1, e2]
  refine C_many (d := 11) hW hC hO hj1 hj2 (fun f1 F1 C1 => ?_)
  refine b_L_law_474 (R' := Rm 12) hb1 h31 hb2 hw.1 ⟨Nat.le_of_ble_eq_true rfl, Nat.le_of_ble_eq_true rfl, Nat.le_of_ble_eq_true rfl, Nat.le_of_ble_eq_true rfl⟩ ?_
  rw [e1, e2]
  refine M_many (d := 10) hw (hM.fr F1) hO hj1 hj2 (fun f2 F2 M2 => ?_)
  exact b_L_law_488 (R' := Rm 12) (fun _ => hN _ _ _ _ _ ⟨hW, hw, (C1.fr F2 hW.t2 (ok_many hO).2.2.1.1), M2, (ok_many hO)⟩) (fun h => absurd rfl h) rfl rfl
theorem L_place (h : LI μ f x t u σ) (h31 : X.2.2.2.2.2.2.2.1 < 2 ^ 31) (hb1 : i + 1 < X.2.2.2.2.2.2.2.1) (hb2 : i + 2 < X.2.2.2.2.2.2.2.1) (hb3 : i + 3 < X.2.2.2.2.2.2.2.1) (hN : ∀ ν f' t' u' σ', LI ν f' x t' u' σ' → G X room_1 mL_law 1001 [(0, .ref X.2.2.2.2.2.2.1), (1, .ref x), (2, .ref (x + 260)), (3, .int (nI i))] [] (sI ν f') 600000 7302250 K) : Ct X (Rm 12) mX11_place [.ref x, .int (X.2.2.2.2.2.2.2.2 (i + 1)), .int (X.2.2.2.2.2.2.2.2 (i + 2)), .int (X.2.2.2.2.2.2.2.2 (i + 3))] (sI μ f) (fun r μ2 => G X room_1 mL_law 512 [(0, .ref X.2.2.2.2.2.2.1), (1, .ref x), (2, .ref (x + 260)), (3, .int (nI i))] (r.toList ++ []) μ2 (600000 + (Rm 12).cells) (7302250 + (Rm 12).slots) K) := by
  obtain ⟨hW, hw, hC, hM, hO⟩ := h
  obtain ⟨j1, hj1, e1⟩ := nI_surj (X.2.2.2.2.2.2.2.2 (i + 1))
  obtain ⟨j2, hj2, e2⟩ := nI_surj (X.2.2.2.2.2.2.2.2 (i + 2))
  obtain ⟨j3, hj3, e3⟩ := nI_surj (X.2.2.2.2.2.2.2.2 (i + 3))
  rw [e1, e2, e3]
  refine C_place (d := 11) hW hC hO hj1 hj2 hj3 (fun f1 F1 C1 => ?_)
  refine b_L_law_512 (R' := Rm 12) hb1 h31 hb2 hb3 hw.1 ⟨Nat.le_of_ble_eq_true rfl, Nat.le_of_ble_eq_true rfl, Nat.le_of_ble_eq_true rfl, Nat.le_of_ble_eq_true rfl⟩ ?_
  rw [e1, e2, e3]
  refine M_place (d := 10) hw (hM.fr F1) hO hj1 hj2 hj3 (fun f2 F2 M2 => ?_)
  exact b_L_law_531 (R' := Rm 12) (fun _ => hN _ _ _ _ _ ⟨hW, hw, (C1.fr F2 hW.t2 (ok_place hO).2.2.1.1), M2, (ok_place hO)⟩) (fun h => absurd rfl h) rfl rfl
theorem L_lead (h : LI μ f x t u σ) (h31 : X.2.2.2.2.2.2.2.1 < 2 ^ 31) (hb1 : i + 1 < X.2.2.2.2.2.2.2.1) (hb2 : i + 2 < X.2.2.2.2.2.2.2.1) (hb3 : i + 3 < X.2.2.2.2.2.2.2.1) (hN : ∀ ν f' t' u' σ', LI ν f' x t' u' σ' → G X room_1 mL_law 1001 [(0, .ref X.2.2.2.2.2.2.1), (1, .ref x), (2, .ref (x + 260)), (3, .int (nI i))] [] (sI ν f') 600000 7302250 K) : Ct X (Rm 12) mX11_lead [.ref x, .int (X.2.2.2.2.2.2.2.2 (i + 1)), .int (X.2.2.2.2.2.2.2.2 (i + 2)), .int (X.2.2.2.2.2.2.2.2 (i + 3))] (sI μ f) (fun r μ2 => G X room_1 mL_law 555 [(0, .ref X.2.2.2.2.2.2.1), (1, .ref x), (2, .ref (x + 260)), (3, .int (nI i))] (r.toList ++ []) μ2 (600000 + (Rm 12).cells) (7302250 + (Rm 12).slots) K) := by
  obtain ⟨hW, hw, hC, hM, hO⟩ := h
  obtain ⟨j1, hj1, e1⟩ := nI_surj (X.2.2.2.2.2.2.2.2 (i + 1))
  obtain ⟨j2, hj2, e2⟩ := nI_surj (X.2.2.2.2.2.2.2.2 (i + 2))
  obtain ⟨j3, hj3, e3⟩ := nI_surj (X.2.2.2.2.2.2.2.2 (i + 3))
  rw [e1, e2, e3]
  refine C_lead (d := 11) hW hC hO hj1 hj2 hj3 (fun f1 F1 C1 => ?_)
  refine b_L_law_555 (R' := Rm 12) hb1 h31 hb2 hb3 hw.1 ⟨Nat.le_of_ble_eq_true rfl, Nat.le_of_ble_eq_true rfl, Nat.le_of_ble_eq_true rfl, Nat.le_of_ble_eq_true rfl⟩ ?_
  rw [e1, e2, e3]
  refine M_lead (d := 10) hw (hM.fr F1) hO hj1 hj2 hj3 (fun f2 F2 M2 => ?_)
  exact b_L_law_574 (R' := Rm 12) (fun _ => hN _ _ _ _ _ ⟨hW, hw, (C1.fr F2 hW.t2 (ok_lead hO).2.2.1.1), M2, (ok_lead hO)⟩) (fun h => absurd rfl h) rfl rfl
theorem L_deed (h : LI μ f x t u σ) (h31 : X.2.2.2.2.2.2.2.1 < 2 ^ 31) (hb1 : i + 1 < X.2.2.2.2.2.2.2.1) (hb2 : i + 2 < X.2.2.2.2.2.2.2.1) (hb3 : i + 3 < X.2.2.2.2.2.2.2.1) (hN : ∀ ν f' t' u' σ', LI ν f' x t' u' σ' → G X room_1 mL_law 1001 [(0, .ref X.2.2.2.2.2.2.1), (1, .ref x), (2, .ref (x + 260)), (3, .int (nI i))] [] (sI ν f') 600000 7302250 K) : Ct X (Rm 12) mX11_deed [.ref x, .int (X.2.2.2.2.2.2.2.2 (i + 1)), .int (X.2.2.2.2.2.2.2.2 (i + 2)), .int (X.2.2.2.2.2.2.2.2 (i + 3))] (sI μ f) (fun r μ2 => G X room_1 mL_law 598 [(0, .ref X.2.2.2.2.2.2.1), (1, .ref x), (2, .ref (x + 260)), (3, .int (nI i))] (r.toList ++ []) μ2 (600000 + (Rm 12).cells) (7302250 + (Rm 12).slots) K) := by
  obtain ⟨hW, hw, hC, hM, hO⟩ := h
  obtain ⟨j1, hj1, e1⟩ := nI_surj (X.2.2.2.2.2.2.2.2 (i + 1))
  obtain ⟨j2, hj2, e2⟩ := nI_surj (X.2.2.2.2.2.2.2.2 (i + 2))
  obtain ⟨j3, hj3, e3⟩ := nI_surj (X.2.2.2.2.2.2.2.2 (i + 3))
  rw [e1, e2, e3]
  refine C_deed (d := 8) hW hC hO hj1 hj2 hj3 (fun f1 F1 C1 => ?_)
  refine b_L_law_598 (R' := Rm 12) hb1 h31 hb2 hb3 hw.1 ⟨Nat.le_of_ble_eq_true rfl, Nat.le_of_ble_eq_true rfl, Nat.le_of_ble_eq_true rfl, Nat.le_of_ble_eq_true rfl⟩ ?_
  rw [e1, e2, e3]
  refine M_deed (d := 9) hw (hM.fr F1) hO hj1 hj2 hj3 (fun f2 F2 M2 => ?_)
  exact b_L_law_617 (R' := Rm 12) (fun _ => hN _ _ _ _ _ ⟨hW, hw, (C1.fr F2 hW.t2 (ok_deed hO).2.2.1.1), M2, (ok_deed hO)⟩) (fun h => absurd rfl h) rfl rfl
theorem L_fold (h : LI μ f x t u σ) (h31 : X.2.2.2.2.2.2.2.1 < 2 ^ 31) (hb1 : i + 1 < X.2.2.2.2.2.2.2.1) (hN : ∀ ν f' t' u' σ', LI ν f' x t' u' σ' → G X room_1 mL_law 1001 [(0, .ref X.2.2.2.2.2.2.1), (1, .ref x), (2, .ref (x + 260)), (3, .int (nI i))] [] (sI ν f') 600000 7302250 K) : Ct X (Rm 12) mX11_fold [.ref x, .int (X.2.2.2.2.2.2.2.2 (i + 1))] (sI μ f) (fun r μ2 => G X room_1 mL_law 631 [(0, .ref X.2.2.2.2.2.2.1), (1, .ref x), (2, .ref (x + 260)), (3, .int (nI i))] (r.toList ++ []) μ2 (600000 + (Rm 12).cells) (7302250 + (Rm 12).slots) K) := by
  obtain ⟨hW, hw, hC, hM, hO⟩ := h
  obtain ⟨j1, hj1, e1⟩ := nI_surj (X.2.2.2.2.2.2.2.2 (i + 1))
  rw [e1]
  refine C_fold (d := 8) hW hC hO hj1 (fun f1 F1 C1 => ?_)
  refine b_L_law_631 (R' := Rm 12) hb1 h31 hw.1 ⟨Nat.le_of_ble_eq_true rfl, Nat.le_of_ble_eq_true rfl, Nat.le_of_ble_eq_true rfl, Nat.le_of_ble_eq_true rfl⟩ ?_
  rw [e1]
  refine M_fold (d := 9) hw (hM.fr F1) hO hj1 (fun f2 F2 M2 => ?_)
  exact b_L_law_640 (R' := Rm 12) (fun _ => hN _ _ _ _ _ ⟨hW, hw, (C1.fr F2 hW.t2 (ok_fold hO).2.2.1.1), M2, (ok_fold hO)⟩) (fun h => absurd rfl h) rfl rfl
theorem L_sharpen (h : LI μ f x t u σ)  (hN : ∀ ν f' t' u' σ', LI ν f' x t' u' σ' → G X room_1 mL_law 1001 [(0, .ref X.2.2.2.2.2.2.1), (1, .ref x), (2, .ref (x + 260)), (3, .int (nI i))] [] (sI ν f') 600000 7302250 K) : Ct X (Rm 12) mX11_sharpen [.ref x] (sI μ f) (fun r μ2 => G X room_1 mL_law 649 [(0, .ref X.2.2.2.2.2.2.1), (1, .ref x), (2, .ref (x + 260)), (3, .int (nI i))] (r.toList ++ []) μ2 (600000 + (Rm 12).cells) (7302250 + (Rm 12).slots) K) := by
  obtain ⟨hW, hw, hC, hM, hO⟩ := h
  refine C_sharpen (d := 9) hW hC hO  (fun f1 F1 C1 => ?_)
  refine b_L_law_649 (R' := Rm 12)  hw.1 ⟨Nat.le_of_ble_eq_true rfl, Nat.le_of_ble_eq_true rfl, Nat.le_of_ble_eq_true rfl, Nat.le_of_ble_eq_true rfl⟩ ?_
  refine M_sharpen (d := 9) hw (hM.fr F1) hO  (fun f2 F2 M2 => ?_)
  exact b_L_law_653 (R' := Rm 12) (fun _ => hN _ _ _ _ _ ⟨hW, hw, (C1.fr F2 hW.t2 (ok_sharpen hO).2.2.1.1), M2, (ok_sharpen hO)⟩) (fun h => absurd rfl h) rfl rfl
theorem L_ways (h : LI μ f x t u σ) (h31 : X.2.2.2.2.2.2.2.1 < 2 ^ 31) (hb1 : i + 1 < X.2.2.2.2.2.2.2.1) (hN : ∀ ν f' t' u' σ', LI ν f' x t' u' σ' → G X room_1 mL_law 1001 [(0, .ref X.2.2.2.2.2.2.1), (1, .ref x), (2, .ref (x + 260)), (3, .int (nI i))] [] (sI ν f') 600000 7302250 K) : Ct X (Rm 12) mX11_ways [.ref x, .int (X.2.2.2.2.2.2.2.2 (i + 1))] (sI μ f) (fun r μ2 => G X room_1 mL_law 667 [(0, .ref X.2.2.2.2.2.2.1), (1, .ref x), (2, .ref (x + 260)), (3, .int (nI i))] (r.toList ++ []) μ2 (600000 + (Rm 12).cells) (7302250 + (Rm 12).slots) K) := by
  obtain ⟨hW, hw, hC, hM, hO⟩ := h
  obtain ⟨j1, hj1, e1⟩ := nI_surj (X.2.2.2.2.2.2.2.2 (i + 1))
  rw [e1]
  refine C_ways (d := 8) hW hC hO hj1 (fun f1 F1 C1 => ?_)
  refine b_L_law_667 (R' := Rm 12) hb1 h31 hw.1 ⟨Nat.le_of_ble_eq_true rfl, Nat.le_of_ble_eq_true rfl, Nat.le_of_ble_eq_true rfl, Nat.le_of_ble_eq_true rfl⟩ ?_
  rw [e1]
  refine M_ways (d := 9) hw (hM.fr F1) hO hj1 ?_
  exact b_L_law_676 (R' := Rm 12) (fun _ => hN _ _ _ _ _ ⟨hW, hw, C1, (hM.fr F1), hO⟩) (fun h => absurd rfl h) rfl rfl
theorem L_split (h : LI μ f x t u σ) (h31 : X.2.2.2.2.2.2.2.1 < 2 ^ 31) (hb1 : i + 1 < X.2.2.2.2.2.2.2.1) (hb2 : i + 2 < X.2.2.2.2.2.2.2.1) (hN : ∀ ν f' t' u' σ', LI ν f' x t' u' σ' → G X room_1 mL_law 1001 [(0, .ref X.2.2.2.2.2.2.1), (1, .ref x), (2, .ref (x + 260)), (3, .int (nI i))] [] (sI ν f') 600000 7302250 K) : Ct X (Rm 12) mX11_split [.ref x, .int (X.2.2.2.2.2.2.2.2 (i + 1)), .int (X.2.2.2.2.2.2.2.2 (i + 2))] (sI μ f) (fun r μ2 => G X room_1 mL_law 695 [(0, .ref X.2.2.2.2.2.2.1), (1, .ref x), (2, .ref (x + 260)), (3, .int (nI i))] (r.toList ++ []) μ2 (600000 + (Rm 12).cells) (7302250 + (Rm 12).slots) K) := by
  obtain ⟨hW, hw, hC, hM, hO⟩ := h
  obtain ⟨j1, hj1, e1⟩ := nI_surj (X.2.2.2.2.2.2.2.2 (i + 1))
  obtain ⟨j2, hj2, e2⟩ := nI_surj (X.2.2.2.2.2.2.2.2 (i + 2))
  rw [e1, e2]
  refine C_split (d := 8) hW hC hO hj1 hj2 (fun f1 F1 C1 => ?_)
  refine b_L_law_695 (R' := Rm 12) hb1 h31 hb2 hw.1 ⟨Nat.le_of_ble_eq_true rfl, Nat.le_of_ble_eq_true rfl, Nat.le_of_ble_eq_true rfl, Nat.le_of_ble_eq_true rfl⟩ ?_
  rw [e1, e2]
  refine M_split (d := 9) hw (hM.fr F1) hO hj1 hj2 (fun f2 F2 M2 => ?_)
  exact b_L_law_709 (R' := Rm 12) (fun _ => hN _ _ _ _ _ ⟨hW, hw, (C1.fr F2 hW.t2 (ok_split hO).2.2.1.1), M2, (ok_split hO)⟩) (fun h => absurd rfl h) rfl rfl
theorem L_run (h : LI μ f x t u σ) (h31 : X.2.2.2.2.2.2.2.1 < 2 ^ 31) (hb1 : i + 1 < X.2.2.2.2.2.2.2.1) (hb2 : i + 2 < X.2.2.2.2.2.2.2.1) (hN : ∀ ν f' t' u' σ', LI ν f' x t' u' σ' → G X room_1 mL_law 1001 [(0, .ref X.2.2.2.2.2.2.1), (1, .ref x), (2, .ref (x + 260)), (3, .int (nI i))] [] (sI ν f') 600000 7302250 K) : Ct X (Rm 12) mX11_run [.ref x, .int (X.2.2.2.2.2.2.2.2 (i + 1)), .int (X.2.2.2.2.2.2.2.2 (i + 2))] (sI μ f) (fun r μ2 => G X room_1 mL_law 728 [(0, .ref X.2.2.2.2.2.2.1), (1, .ref x), (2, .ref (x + 260)), (3, .int (nI i))] (r.toList ++ []) μ2 (600000 + (Rm 12).cells) (7302250 + (Rm 12).slots) K) := by
  obtain ⟨hW, hw, hC, hM, hO⟩ := h
  obtain ⟨j1, hj1, e1⟩ := nI_surj (X.2.2.2.2.2.2.2.2 (i + 1))
  obtain ⟨j2, hj2, e2⟩ := nI_surj (X.2.2.2.2.2.2.2.2 (i + 2))
  rw [e1, e2]
  refine C_run (d := 8) hW hC hO hj2 (fun f1 F1 C1 => ?_)
  refine b_L_law_728 (R' := Rm 12) hb1 h31 hb2 hw.1 ⟨Nat.le_of_ble_eq_true rfl, Nat.le_of_ble_eq_true rfl, Nat.le_of_ble_eq_true rfl, Nat.le_of_ble_eq_true rfl⟩ ?_
  rw [e1, e2]
  refine M_run (d := 9) hw (hM.fr F1) hO hj2 (fun f2 F2 M2 => ?_)
  exact b_L_law_742 (R' := Rm 12) (fun _ => hN _ _ _ _ _ ⟨hW, hw, (C1.fr F2 hW.t2 (ok_run hO).2.2.1.1), M2, (ok_run hO)⟩) (fun h => absurd rfl h) rfl rfl
theorem L_keep (h : LI μ f x t u σ) (h31 : X.2.2.2.2.2.2.2.1 < 2 ^ 31) (hb1 : i + 1 < X.2.2.2.2.2.2.2.1) (hN : ∀ ν f' t' u' σ', LI ν f' x t' u' σ' → G X room_1 mL_law 1001 [(0, .ref X.2.2.2.2.2.2.1), (1, .ref x), (2, .ref (x + 260)), (3, .int (nI i))] [] (sI ν f') 600000 7302250 K) : Ct X (Rm 12) mX11_keep [.ref x, .int (X.2.2.2.2.2.2.2.2 (i + 1))] (sI μ f) (fun r μ2 => G X room_1 mL_law 756 [(0, .ref X.2.2.2.2.2.2.1), (1, .ref x), (2, .ref (x + 260)), (3, .int (nI i))] (r.toList ++ []) μ2 (600000 + (Rm 12).cells) (7302250 + (Rm 12).slots) K) := by
  obtain ⟨hW, hw, hC, hM, hO⟩ := h
  obtain ⟨j1, hj1, e1⟩ := nI_surj (X.2.2.2.2.2.2.2.2 (i + 1))
  rw [e1]
  refine C_keep (d := 10) hW hC hO hj1 (fun f1 F1 C1 => ?_)
  refine b_L_law_756 (R' := Rm 12) hb1 h31 hw.1 ⟨Nat.le_of_ble_eq_true rfl, Nat.le_of_ble_eq_true rfl, Nat.le_of_ble_eq_true rfl, Nat.le_of_ble_eq_true rfl⟩ ?_
  rw [e1]
  refine M_keep (d := 11) hw (hM.fr F1) hO hj1 (fun f2 F2 M2 => ?_)
  exact b_L_law_765 (R' := Rm 12) (fun _ => hN _ _ _ _ _ ⟨hW, hw, (C1.fr F2 hW.t2 (ok_keep hO).2.2.1.1), M2, (ok_keep hO)⟩) (fun h => absurd rfl h) rfl rfl
theorem L_back (h : LI μ f x t u σ) (h31 : X.2.2.2.2.2.2.2.1 < 2 ^ 31) (hb1 : i + 1 < X.2.2.2.2.2.2.2.1) (hN : ∀ ν f' t' u' σ', LI ν f' x t' u' σ' → G X room_1 mL_law 1001 [(0, .ref X.2.2.2.2.2.2.1), (1, .ref x), (2, .ref (x + 260)), (3, .int (nI i))] [] (sI ν f') 600000 7302250 K) : Ct X (Rm 12) mX11_back [.ref x, .int (X.2.2.2.2.2.2.2.2 (i + 1))] (sI μ f) (fun r μ2 => G X room_1 mL_law 779 [(0, .ref X.2.2.2.2.2.2.1), (1, .ref x), (2, .ref (x + 260)), (3, .int (nI i))] (r.toList ++ []) μ2 (600000 + (Rm 12).cells) (7302250 + (Rm 12).slots) K) := by
  obtain ⟨hW, hw, hC, hM, hO⟩ := h
  obtain ⟨j1, hj1, e1⟩ := nI_surj (X.2.2.2.2.2.2.2.2 (i + 1))
  rw [e1]
  refine C_back (d := 10) hW hC hO hj1 (fun f1 F1 C1 => ?_)
  refine b_L_law_779 (R' := Rm 12) hb1 h31 hw.1 ⟨Nat.le_of_ble_eq_true rfl, Nat.le_of_ble_eq_true rfl, Nat.le_of_ble_eq_true rfl, Nat.le_of_ble_eq_true rfl⟩ ?_
  rw [e1]
  refine M_back (d := 11) hw (hM.fr F1) hO hj1 (fun f2 F2 M2 => ?_)
  exact b_L_law_788 (R' := Rm 12) (fun _ => hN _ _ _ _ _ ⟨hW, hw, (C1.fr F2 hW.t2 (ok_back hO).2.2.1.1), M2, (ok_back hO)⟩) (fun h => absurd rfl h) rfl rfl
theorem L_covers (h : LI μ f x t u σ) (h31 : X.2.2.2.2.2.2.2.1 < 2 ^ 31) (hb1 : i + 1 < X.2.2.2.2.2.2.2.1) (hb2 : i + 2 < X.2.2.2.2.2.2.2.1) (hN : ∀ ν f' t' u' σ', LI ν f' x t' u' σ' → G X room_1 mL_law 1001 [(0, .ref X.2.2.2.2.2.2.1), (1, .ref x), (2, .ref (x + 260)), (3, .int (nI i))] [] (sI ν f') 600000 7302250 K) : Ct X (Rm 12) mX11_covers [.ref x, .int (X.2.2.2.2.2.2.2.2 (i + 1)), .int (X.2.2.2.2.2.2.2.2 (i + 2))] (sI μ f) (fun r μ2 => G X room_1 mL_law 807 [(0, .ref X.2.2.2.2.2.2.1), (1, .ref x), (2, .ref (x + 260)), (3, .int (nI i))] (r.toList ++ []) μ2 (600000 + (Rm 12).cells) (7302250 + (Rm 12).slots) K) := by
  obtain ⟨hW, hw, hC, hM, hO⟩ := h
  obtain ⟨j1, hj1, e1⟩ := nI_surj (X.2.2.2.2.2.2.2.2 (i + 1))
  obtain ⟨j2, hj2, e2⟩ := nI_surj (X.2.2.2.2.2.2.2.2 (i + 2))
  rw [e1, e2]
  refine C_covers (d := 2) hW hC hO hj1 hj2 (fun f1 F1 C1 => ?_)
  refine b_L_law_807 (R' := Rm 12) hb1 h31 hb2 hw.1 ⟨Nat.le_of_ble_eq_true rfl, Nat.le_of_ble_eq_true rfl, Nat.le_of_ble_eq_true rfl, Nat.le_of_ble_eq_true rfl⟩ ?_
  rw [e1, e2]
  refine M_covers (d := 9) hw (hM.fr F1) hO hj1 hj2 (fun f2 F2 M2 => ?_)
  exact b_L_law_821 (R' := Rm 12) (fun _ => hN _ _ _ _ _ ⟨hW, hw, (C1.fr F2 hW.t2 hO.2.2.1.1), M2, hO⟩) (fun h => absurd rfl h) rfl rfl
theorem L_sheet (h : LI μ f x t u σ) (h31 : X.2.2.2.2.2.2.2.1 < 2 ^ 31) (hb1 : i + 1 < X.2.2.2.2.2.2.2.1) (hb2 : i + 2 < X.2.2.2.2.2.2.2.1) (hb3 : i + 3 < X.2.2.2.2.2.2.2.1) (hN : ∀ ν f' t' u' σ', LI ν f' x t' u' σ' → G X room_1 mL_law 1001 [(0, .ref X.2.2.2.2.2.2.1), (1, .ref x), (2, .ref (x + 260)), (3, .int (nI i))] [] (sI ν f') 600000 7302250 K) : Ct X (Rm 12) mX11_sheet [.ref x, .int (X.2.2.2.2.2.2.2.2 (i + 1)), .int (X.2.2.2.2.2.2.2.2 (i + 2)), .int (X.2.2.2.2.2.2.2.2 (i + 3))] (sI μ f) (fun r μ2 => G X room_1 mL_law 845 [(0, .ref X.2.2.2.2.2.2.1), (1, .ref x), (2, .ref (x + 260)), (3, .int (nI i))] (r.toList ++ []) μ2 (600000 + (Rm 12).cells) (7302250 + (Rm 12).slots) K) := by
  obtain ⟨hW, hw, hC, hM, hO⟩ := h
  obtain ⟨j1, hj1, e1⟩ := nI_surj (X.2.2.2.2.2.2.2.2 (i + 1))
  obtain ⟨j2, hj2, e2⟩ := nI_surj (X.2.2.2.2.2.2.2.2 (i + 2))
  obtain ⟨j3, hj3, e3⟩ := nI_surj (X.2.2.2.2.2.2.2.2 (i + 3))
  rw [e1, e2, e3]
  refine C_sheet (d := 10) hW hC hO hj1 hj2 hj3 (fun f1 F1 C1 => ?_)
  refine b_L_law_845 (R' := Rm 12) hb1 h31 hb2 hb3 hw.1 ⟨Nat.le_of_ble_eq_true rfl, Nat.le_of_ble_eq_true rfl, Nat.le_of_ble_eq_true rfl, Nat.le_of_ble_eq_true rfl⟩ ?_
  rw [e1, e2, e3]
  refine M_sheet (d := 11) hw (hM.fr F1) hO hj1 hj2 hj3 (fun f2 F2 M2 => ?_)
  exact b_L_law_864 (R' := Rm 12) (fun _ => hN _ _ _ _ _ ⟨hW, hw, (C1.fr F2 hW.t2 (ok_sheet hO).2.2.1.1), M2, (ok_sheet hO)⟩) (fun h => absurd rfl h) rfl rfl
theorem L_lay (h : LI μ f x t u σ) (h31 : X.2.2.2.2.2.2.2.1 < 2 ^ 31) (hb1 : i + 1 < X.2.2.2.2.2.2.2.1) (hb2 : i + 2 < X.2.2.2.2.2.2.2.1) (hb3 : i + 3 < X.2.2.2.2.2.2.2.1) (hN : ∀ ν f' t' u' σ', LI ν f' x t' u' σ' → G X room_1 mL_law 1001 [(0, .ref X.2.2.2.2.2.2.1), (1, .ref x), (2, .ref (x + 260)), (3, .int (nI i))] [] (sI ν f') 600000 7302250 K) : Ct X (Rm 12) mX11_lay [.ref x, .int (X.2.2.2.2.2.2.2.2 (i + 1)), .int (X.2.2.2.2.2.2.2.2 (i + 2)), .int (X.2.2.2.2.2.2.2.2 (i + 3))] (sI μ f) (fun r μ2 => G X room_1 mL_law 888 [(0, .ref X.2.2.2.2.2.2.1), (1, .ref x), (2, .ref (x + 260)), (3, .int (nI i))] (r.toList ++ []) μ2 (600000 + (Rm 12).cells) (7302250 + (Rm 12).slots) K) := by
  obtain ⟨hW, hw, hC, hM, hO⟩ := h
  obtain ⟨j1, hj1, e1⟩ := nI_surj (X.2.2.2.2.2.2.2.2 (i + 1))
  obtain ⟨j2, hj2, e2⟩ := nI_surj (X.2.2.2.2.2.2.2.2 (i + 2))
  obtain ⟨j3, hj3, e3⟩ := nI_surj (X.2.2.2.2.2.2.2.2 (i + 3))
  rw [e1, e2, e3]
  refine C_lay (d := 10) hW hC hO hj1 hj2 (fun f1 F1 C1 => ?_)
  refine b_L_law_888 (R' := Rm 12) hb1 h31 hb2 hb3 hw.1 ⟨Nat.le_of_ble_eq_true rfl, Nat.le_of_ble_eq_true rfl, Nat.le_of_ble_eq_true rfl, Nat.le_of_ble_eq_true rfl⟩ ?_
  rw [e1, e2, e3]
  refine M_lay (d := 11) hw (hM.fr F1) hO hj1 hj2 (fun f2 F2 M2 => ?_)
  exact b_L_law_907 (R' := Rm 12) (fun _ => hN _ _ _ _ _ ⟨hW, hw, (C1.fr F2 hW.t2 (ok_lay hO).2.2.1.1), M2, (ok_lay hO)⟩) (fun h => absurd rfl h) rfl rfl
theorem L_read (h : LI μ f x t u σ) (h31 : X.2.2.2.2.2.2.2.1 < 2 ^ 31) (hb1 : i + 1 < X.2.2.2.2.2.2.2.1) (hb2 : i + 2 < X.2.2.2.2.2.2.2.1) (hb3 : i + 3 < X.2.2.2.2.2.2.2.1) (hb4 : i + 4 < X.2.2.2.2.2.2.2.1) (hN : ∀ ν f' t' u' σ', LI ν f' x t' u' σ' → G X room_1 mL_law 1001 [(0, .ref X.2.2.2.2.2.2.1), (1, .ref x), (2, .ref (x + 260)), (3, .int (nI i))] [] (sI ν f') 600000 7302250 K) : Ct X (Rm 12) mX11_read [.ref x, .int (X.2.2.2.2.2.2.2.2 (i + 1)), .int (X.2.2.2.2.2.2.2.2 (i + 2)), .int (X.2.2.2.2.2.2.2.2 (i + 3)), .int (X.2.2.2.2.2.2.2.2 (i + 4))] (sI μ f) (fun r μ2 => G X room_1 mL_law 936 [(0, .ref X.2.2.2.2.2.2.1), (1, .ref x), (2, .ref (x + 260)), (3, .int (nI i))] (r.toList ++ []) μ2 (600000 + (Rm 12).cells) (7302250 + (Rm 12).slots) K) := by
  obtain ⟨hW, hw, hC, hM, hO⟩ := h
  obtain ⟨j1, hj1, e1⟩ := nI_surj (X.2.2.2.2.2.2.2.2 (i + 1))
  obtain ⟨j2, hj2, e2⟩ := nI_surj (X.2.2.2.2.2.2.2.2 (i + 2))
  obtain ⟨j3, hj3, e3⟩ := nI_surj (X.2.2.2.2.2.2.2.2 (i + 3))
  obtain ⟨j4, hj4, e4⟩ := nI_surj (X.2.2.2.2.2.2.2.2 (i + 4))
  rw [e1, e2, e3, e4]
  refine C_read (d := 8) hW hC hO hj1 hj2 hj3 hj4 (fun f1 F1 C1 => ?_)
  refine b_L_law_936 (R' := Rm 12) hb1 h31 hb2 hb3 hb4 hw.1 ⟨Nat.le_of_ble_eq_true rfl, Nat.le_of_ble_eq_true rfl, Nat.le_of_ble_eq_true rfl, Nat.le_of_ble_eq_true rfl⟩ ?_
  rw [e1, e2, e3, e4]
  refine M_read (d := 9) hw (hM.fr F1) hO hj1 hj2 hj3 hj4 (fun f2 F2 M2 => ?_)
  exact b_L_law_960 (R' := Rm 12) (fun _ => hN _ _ _ _ _ ⟨hW, hw, (C1.fr F2 hW.t2 (ok_read hO).2.2.1.1), M2, (ok_read hO)⟩) (fun h => absurd rfl h) rfl rfl
theorem L_torn (h : LI μ f x t u σ)  (hN : ∀ ν f' t' u' σ', LI ν f' x t' u' σ' → G X room_1 mL_law 1001 [(0, .ref X.2.2.2.2.2.2.1), (1, .ref x), (2, .ref (x + 260)), (3, .int (nI i))] [] (sI ν f') 600000 7302250 K) : Ct X (Rm 12) mX11_torn [.ref x] (sI μ f) (fun r μ2 => G X room_1 mL_law 969 [(0, .ref X.2.2.2.2.2.2.1), (1, .ref x), (2, .ref (x + 260)), (3, .int (nI i))] (r.toList ++ []) μ2 (600000 + (Rm 12).cells) (7302250 + (Rm 12).slots) K) := by
  obtain ⟨hW, hw, hC, hM, hO⟩ := h
  refine C_torn (d := 12) hW hC  ?_
  refine b_L_law_969 (R' := Rm 12)  hw.1 ⟨Nat.le_of_ble_eq_true rfl, Nat.le_of_ble_eq_true rfl, Nat.le_of_ble_eq_true rfl, Nat.le_of_ble_eq_true rfl⟩ ?_
  refine M_torn (d := 12) hw hM  ?_
  exact b_L_law_973 (R' := Rm 12) (fun _ => hN _ _ _ _ _ ⟨hW, hw, hC, hM, hO⟩) (fun h => absurd rfl h) rfl rfl
theorem L_count (h : LI μ f x t u σ) (h31 : X.2.2.2.2.2.2.2.1 < 2 ^ 31) (hb1 : i + 1 < X.2.2.2.2.2.2.2.1) (hN : ∀ ν f' t' u' σ', LI ν f' x t' u' σ' → G X room_1 mL_law 1001 [(0, .ref X.2.2.2.2.2.2.1), (1, .ref x), (2, .ref (x + 260)), (3, .int (nI i))] [] (sI ν f') 600000 7302250 K) : Ct X (Rm 12) mX11_count [.ref x, .int (X.2.2.2.2.2.2.2.2 (i + 1))] (sI μ f) (fun r μ2 => G X room_1 mL_law 987 [(0, .ref X.2.2.2.2.2.2.1), (1, .ref x), (2, .ref (x + 260)), (3, .int (nI i))] (r.toList ++ []) μ2 (600000 + (Rm 12).cells) (7302250 + (Rm 12).slots) K) := by
  obtain ⟨hW, hw, hC, hM, hO⟩ := h
  obtain ⟨j1, hj1, e1⟩ := nI_surj (X.2.2.2.2.2.2.2.2 (i + 1))
  rw [e1]
  refine C_count (d := 11) hW hC hO hj1 ?_
  refine b_L_law_987 (R' := Rm 12) hb1 h31 hw.1 ⟨Nat.le_of_ble_eq_true rfl, Nat.le_of_ble_eq_true rfl, Nat.le_of_ble_eq_true rfl, Nat.le_of_ble_eq_true rfl⟩ ?_
  rw [e1]
  refine M_count (d := 12) hw hM hO hj1 ?_
  exact b_L_law_996 (R' := Rm 12) (fun _ => hN _ _ _ _ _ ⟨hW, hw, hC, hM, hO⟩) (fun h => absurd rfl h) rfl rfl
end P74
