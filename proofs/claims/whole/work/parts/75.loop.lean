section P75
theorem G_widen {X : cX} {R : Room} {M : Md} {pc : Nat} {L : List (Nat × Value)} {S : List Value} {μ : mM} {cs sl k n : Nat} {K : Option Value → mM → Prop} (h1 : cs ≤ k) (h2 : sl ≤ n) (h : G X R M pc L S μ k n K) : G X R M pc L S μ cs sl K := fun p e s m args below meth c ls H locs hC hL hP hS => W.widen h1 h2 (h p e s m args below meth c ls H locs hC hL hP hS)
variable {X : cX} {K : Option Value → mM → Prop} {x : Nat}
theorem nI_5 (i : Nat) : nI i + 5 = nI (i + 5) := by
  rw [← nI_1, ← nI_1, ← nI_1, ← nI_1, ← nI_1, Int32.add_assoc, Int32.add_assoc, Int32.add_assoc, Int32.add_assoc]; rfl
theorem law_c {n i : Nat} (hn : n < 2 ^ 31) (hi : i < 2 ^ 31) (h : ¬ nI n - 5 < nI i) : i + 4 < n := by
  rw [Int32.lt_iff_toInt_lt, Int32.toInt_sub, nI_toInt hi, nI_toInt hn] at h
  have e : (5 : Int32).toInt = 5 := rfl
  rw [e] at h
  have e2 : ((n : Int) - 5).bmod (2 ^ 32) = (n : Int) - 5 := by
    apply Int.bmod_eq_of_le <;> omega
  rw [e2] at h
  omega
theorem law_loop (h31 : X.2.2.2.2.2.2.2.1 < 2 ^ 31) (hK : ∀ μ, K (some (.int 1)) μ) : ∀ n i, i ≤ X.2.2.2.2.2.2.2.1 → X.2.2.2.2.2.2.2.1 < i + n → ∀ μ f t u σ, LI μ f x t u σ → G X room_1 mL_law 18 [(0, .ref X.2.2.2.2.2.2.1), (1, .ref x), (2, .ref (x + 260)), (3, .int (nI i))] [] (sI μ f) 600000 7302250 K := by
  intro n
  induction n with
  | zero => intro i h1 h2; omega
  | succ n ih =>
    intro i h1 h2 μ f t u σ h
    have Q : ¬ ((nI X.2.2.2.2.2.2.2.1) - 5) < (nI i) → i + 4 < X.2.2.2.2.2.2.2.1 := fun c => law_c h31 (by omega) c
    have N : ¬ ((nI X.2.2.2.2.2.2.2.1) - 5) < (nI i) → ∀ ν f' t' u' σ', LI ν f' x t' u' σ' → G X room_1 mL_law 1001 [(0, .ref X.2.2.2.2.2.2.1), (1, .ref x), (2, .ref (x + 260)), (3, .int (nI i))] [] (sI ν f') 600000 7302250 K := by
      intro c ν f' t' u' σ' h'
      refine b_L_law_1001 (R' := Rm 0) ?_
      rw [nI_5]
      have := Q c
      exact ih (i + 5) (by omega) (by omega) ν f' t' u' σ' h'
    exact b_L_law_18 (R' := Rm 12) (fun _ => hK _) rfl rfl (fun c => by have := Q c; omega) h31 (fun c _ => by have := Q c; omega) h.1.w11.1 ⟨Nat.le_of_ble_eq_true rfl, Nat.le_of_ble_eq_true rfl, Nat.le_of_ble_eq_true rfl, Nat.le_of_ble_eq_true rfl⟩ (fun c _ => L_feed h h31 (by have := Q c; omega) (N c)) (fun c _ => by have := Q c; omega) ⟨Nat.le_of_ble_eq_true rfl, Nat.le_of_ble_eq_true rfl, Nat.le_of_ble_eq_true rfl, Nat.le_of_ble_eq_true rfl⟩ (fun c _ => L_end h h31 (by have := Q c; omega) (N c)) ⟨Nat.le_of_ble_eq_true rfl, Nat.le_of_ble_eq_true rfl, Nat.le_of_ble_eq_true rfl, Nat.le_of_ble_eq_true rfl⟩ (fun c _ => L_text h  (N c)) ⟨Nat.le_of_ble_eq_true rfl, Nat.le_of_ble_eq_true rfl, Nat.le_of_ble_eq_true rfl, Nat.le_of_ble_eq_true rfl⟩ (fun c _ => L_fault h  (N c)) (fun c _ => by have := Q c; omega) (fun c _ => L_rule h h31 (by have := Q c; omega) (N c)) (fun c _ => by have := Q c; omega) (fun c _ => by have := Q c; omega) (fun c _ => L_node h h31 (by have := Q c; omega) (by have := Q c; omega) (N c)) (fun c _ => by have := Q c; omega) (fun c _ => by have := Q c; omega) (fun c _ => by have := Q c; omega) ⟨Nat.le_of_ble_eq_true rfl, Nat.le_of_ble_eq_true rfl, Nat.le_of_ble_eq_true rfl, Nat.le_of_ble_eq_true rfl⟩ (fun c _ => L_pair h h31 (by have := Q c; omega) (by have := Q c; omega) (by have := Q c; omega) (N c)) (fun c _ => by have := Q c; omega) (fun c _ => L_held h h31 (by have := Q c; omega) (N c)) (fun c _ => by have := Q c; omega) (fun c _ => L_ask h h31 (by have := Q c; omega) (N c)) (fun c _ => by have := Q c; omega) (fun c _ => by have := Q c; omega) (fun c _ => L_formula h h31 (by have := Q c; omega) (by have := Q c; omega) (N c)) (fun c _ => by have := Q c; omega) (fun c _ => L_add h h31 (by have := Q c; omega) (N c)) (fun c _ => by have := Q c; omega) (fun c _ => L_lose h h31 (by have := Q c; omega) (N c)) (fun c _ => by have := Q c; omega) (fun c _ => by have := Q c; omega) (fun c _ => L_many h h31 (by have := Q c; omega) (by have := Q c; omega) (N c)) (fun c _ => by have := Q c; omega) (fun c _ => by have := Q c; omega) (fun c _ => by have := Q c; omega) (fun c _ => L_place h h31 (by have := Q c; omega) (by have := Q c; omega) (by have := Q c; omega) (N c)) (fun c _ => by have := Q c; omega) (fun c _ => by have := Q c; omega) (fun c _ => by have := Q c; omega) (fun c _ => L_lead h h31 (by have := Q c; omega) (by have := Q c; omega) (by have := Q c; omega) (N c)) (fun c _ => by have := Q c; omega) (fun c _ => by have := Q c; omega) (fun c _ => by have := Q c; omega) (fun c _ => L_deed h h31 (by have := Q c; omega) (by have := Q c; omega) (by have := Q c; omega) (N c)) (fun c _ => by have := Q c; omega) (fun c _ => L_fold h h31 (by have := Q c; omega) (N c)) (fun c _ => L_sharpen h  (N c)) (fun c _ => by have := Q c; omega) (fun c _ => L_ways h h31 (by have := Q c; omega) (N c)) (fun c _ => by have := Q c; omega) (fun c _ => by have := Q c; omega) (fun c _ => L_split h h31 (by have := Q c; omega) (by have := Q c; omega) (N c)) (fun c _ => by have := Q c; omega) (fun c _ => by have := Q c; omega) ⟨Nat.le_of_ble_eq_true rfl, Nat.le_of_ble_eq_true rfl, Nat.le_of_ble_eq_true rfl, Nat.le_of_ble_eq_true rfl⟩ (fun c _ => L_run h h31 (by have := Q c; omega) (by have := Q c; omega) (N c)) (fun c _ => by have := Q c; omega) (fun c _ => L_keep h h31 (by have := Q c; omega) (N c)) (fun c _ => by have := Q c; omega) (fun c _ => L_back h h31 (by have := Q c; omega) (N c)) (fun c _ => by have := Q c; omega) (fun c _ => by have := Q c; omega) (fun c _ => L_covers h h31 (by have := Q c; omega) (by have := Q c; omega) (N c)) (fun c _ => by have := Q c; omega) (fun c _ => by have := Q c; omega) (fun c _ => by have := Q c; omega) (fun c _ => L_sheet h h31 (by have := Q c; omega) (by have := Q c; omega) (by have := Q c; omega) (N c)) (fun c _ => by have := Q c; omega) (fun c _ => by have := Q c; omega) (fun c _ => by have := Q c; omega) (fun c _ => L_lay h h31 (by have := Q c; omega) (by have := Q c; omega) (by have := Q c; omega) (N c)) (fun c _ => by have := Q c; omega) (fun c _ => by have := Q c; omega) (fun c _ => by have := Q c; omega) (fun c _ => by have := Q c; omega) ⟨Nat.le_of_ble_eq_true rfl, Nat.le_of_ble_eq_true rfl, Nat.le_of_ble_eq_true rfl, Nat.le_of_ble_eq_true rfl⟩ (fun c _ => L_read h h31 (by have := Q c; omega) (by have := Q c; omega) (by have := Q c; omega) (by have := Q c; omega) (N c)) (fun c _ => L_torn h  (N c)) (fun c _ => by have := Q c; omega) (fun c _ => L_count h h31 (by have := Q c; omega) (N c)) (fun c _ => N c _ _ _ _ _ h)
theorem WC.ex {μ ν : mM} {t u : Nat} {D : Nat → Prop} (h : WC μ x t u) (g : EX D0 D μ ν) (hs : x + 260 ≤ sz μ) : WC ν x t u := by
  have tu := h.tu
  exact ⟨h.w11.ex g (by omega) (fun _ _ _ h => h), (g.2.2.1 _ _ (by omega) (fun h => h)).trans h.rt, (g.2.2.1 _ _ (by omega) (fun h => h)).trans h.ru, tu, h.wt.ex g (by omega) (fun _ _ _ h => h), h.wu.ex g (by omega) (fun _ _ _ h => h), h.w9.ex g (by omega) (fun _ _ _ h => h), h.w4.ex g (by omega) (fun _ _ _ h => h), fun k hk => (h.wim k hk).ex g (by omega) (fun _ _ _ h => h), h.wbf.ex g (by omega) (fun _ _ _ h => h), h.w1.ex g (by omega) (fun _ _ _ h => h), ⟨h.w2.1.ex g (by omega) (fun _ _ _ h => h), h.w2.2.ex g (by omega) (fun _ _ _ h => h)⟩, ⟨h.w6.1.ex g (by omega) (fun _ _ _ h => h), h.w6.2.ex g (by omega) (fun _ _ _ h => h)⟩, h.w8.ex g (by omega) (fun _ _ _ h => h), h.w0.ex g (by omega) (fun _ _ _ h => h), fun k hk => (h.w7 k hk).ex g (by omega) (fun _ _ _ h => h)⟩
/-- the law, from its first place: it answers 1 -/
theorem law_G {μ : mM} (h31 : X.2.2.2.2.2.2.2.1 < 2 ^ 31) (hK : ∀ μ, K (some (.int 1)) μ) : G X room_1 mL_law 0 [(0, .ref X.2.2.2.2.2.2.1)] [] μ 0 0 K := by
  obtain ⟨x, hx⟩ : ∃ x, sz μ = x := ⟨_, rfl⟩
  refine b_L_law_0 (R' := Rm 0) (Nat.le_of_ble_eq_true rfl) (Nat.le_of_ble_eq_true rfl) ?_
  refine b_L_law_3 (R' := RC 4 259 2074) ⟨Nat.le_of_ble_eq_true rfl, Nat.le_of_ble_eq_true rfl, Nat.le_of_ble_eq_true rfl, Nat.le_of_ble_eq_true rfl⟩ (N_X11 (by rw [kd_al, if_pos rfl]) (by rw [sz_al]) fun n1 e1 y1 w1 => ?_)
  refine b_L_law_7 (R' := Rm 0) (Nat.le_of_ble_eq_true rfl) (Nat.le_of_ble_eq_true rfl) ?_
  refine b_L_law_11 (R' := RC 1 16 1383) ⟨Nat.le_of_ble_eq_true rfl, Nat.le_of_ble_eq_true rfl, Nat.le_of_ble_eq_true rfl, Nat.le_of_ble_eq_true rfl⟩ (N_X12 (by rw [kd_al, if_pos rfl]) (by rw [sz_al]) (fun j => by rw [iv_al, if_pos rfl]) fun n2 e2 y2 w2 m2 => ?_)
  refine b_L_law_15 (R' := Rm 0) ?_
  refine G_widen (k := 600000) (n := 7302250) (Nat.le_of_ble_eq_true rfl) (Nat.le_of_ble_eq_true rfl) ?_
  rw [hx] at e1 y1 w1
  rw [y1] at e2 y2 w2 m2
  rw [hx, y1]
  have g : EX D0 (D12 (x + 260)) n1 n2 := EX.sub y1 e2
  have hI : LI n2 (iv n2) x (x + 62) (x + 4) σ0 := by
    refine ⟨w1.ex g (by omega), w2, CI_0 (fun z j h1 h2 => ?_), m2, ok_0⟩
    rw [g.2.2.2.1 z j (by omega)]
    by_cases hz : z = x
    · rw [e1.2.2.2.1 z j (by rw [sz_al]; omega), iv_al, if_pos (by omega)]
    · exact e1.2.2.2.2 z j (by rw [sz_al]; omega) (by omega) (fun h => h)
  exact law_loop h31 hK (X.2.2.2.2.2.2.2.1 + 1) 0 (Nat.zero_le _) (by omega) n2 (iv n2) _ _ _ hI
end P75
