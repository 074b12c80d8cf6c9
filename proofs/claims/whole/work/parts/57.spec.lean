/-- what reading comes to: a fault's number and place, or what was read -/
abbrev oE (α : Type) : Type := Except (Nat × Nat) α
def bnd {α β : Type} (e : oE α) (k : α → oE β) : oE β := match e with
  | .error x => .error x
  | .ok r => k r
theorem bnd_e {α β : Type} {e : oE α} {k : α → oE β} {x : Nat × Nat} (h : e = .error x) : bnd e k = .error x := by subst h; rfl
theorem bnd_o {α β : Type} {e : oE α} {k : α → oE β} {r : α} (h : e = .ok r) : bnd e k = k r := by subst h; rfl
def rT (T : Nat → Nat) (n q : Nat) : Nat × Nat := (if tK T n q = 5 then 1 else 2, tA T n q)
def pVar (T : Nat → Nat) (n q : Nat) : oE (Nat × Nat) := if o3 T n q 120 < 3 then .ok (o3 T n q 120, tB T n q) else .error (rT T n q)
def pNod (T : Nat → Nat) (n q : Nat) : oE (Nat × Nat) := if tK T n q = 2 then (if num T n q < 6 then .ok (num T n q, tB T n q) else .error (3, tA T n q)) else .error (rT T n q)
def pTru (T : Nat → Nat) (n q : Nat) : Nat × Nat := if nmW T n q = 10 then (1, tB T n q) else (2, q)
def pSgn (T : Nat → Nat) (n k q : Nat) : oE Nat := if tK T n q = k then .ok (tB T n q) else .error (rT T n q)
def pTold (T : Nat → Nat) (n : Nat) (F : Nat → Nat) (o q : Nat) : oE (Nat × Nat) := if o3 T n q 97 < 3 then (if F (o + 4 + o3 T n q 97) = 0 then .error (4, tA T n q) else .ok (F (o + 4 + o3 T n q 97) - 1, tB T n q)) else .error (rT T n q)
/-- where the reading is, the page, the formulas, how many, the furthest node and one -/
abbrev pS : Type := Nat × (Nat → Nat) × (Nat → Nat) × Nat × Nat
def pNodeL (T : Nat → Nat) (n m : Nat) (s : pS) : oE pS := if s.2.1 60 = 6 then .error (5, tA T n s.1) else bnd (pSgn T n 3 (tB T n s.1)) (fun q => .ok (q, app s.2.1 m, s.2.2))
def pAtL (T : Nat → Nat) (n : Nat) (s : pS) : oE pS := bnd (pVar T n (tB T n s.1)) (fun v => bnd (pNod T n v.2) (fun i => bnd (pSgn T n 3 (pTru T n i.2).2) (fun q => .ok (q, upd1 s.2.1 (6 + 6 * v.1 + i.1) (pTru T n i.2).1, s.2.2.1, s.2.2.2.1, max s.2.2.2.2 (i.1 + 1)))))
def pNextL (T : Nat → Nat) (n : Nat) (s : pS) : oE pS := bnd (pNod T n (tB T n s.1)) (fun v => bnd (pNod T n v.2) (fun i => bnd (pSgn T n 3 (pTru T n i.2).2) (fun q => .ok (q, upd1 s.2.1 (24 + 6 * v.1 + i.1) (pTru T n i.2).1, s.2.2.1, s.2.2.2.1, max (max s.2.2.2.2 (v.1 + 1)) (i.1 + 1)))))
/-- a letter more, with all or some -/
def lt1 (F : Nat → Nat) (o l b : Nat) : Nat → Nat := fun k => if k = o + 4 + l then F o + 1 else if k = o + 1 then F (o + 1) ||| b * 2 ^ F o else if k = o then F o + 1 else F k
def pLet (T : Nat → Nat) (n o b q : Nat) (F : Nat → Nat) : oE (Nat × (Nat → Nat)) := if o3 T n q 97 < 3 then (if F (o + 4 + o3 T n q 97) = 0 then .ok (tB T n q, lt1 F o (o3 T n q 97) b) else .error (4, tA T n q)) else .error (rT T n q)
def pLets (T : Nat → Nat) (n o : Nat) : Nat → Nat → (Nat → Nat) → oE (Nat × (Nat → Nat))
  | 0, q, F => .ok (q, F)
  | m + 1, q, F => if nmW T n q = 11 ∨ nmW T n q = 12 then bnd (pLet T n o (if nmW T n q = 11 then 1 else 0) (tB T n q) F) (fun r => pLets T n o m r.1 r.2) else .ok (q, F)
def tkn (k : Nat) : Nat := if k = 5 then 1 else if 5 < k then 2 else 0
def it1 (F : Nat → Nat) (o k a b h : Nat) : Nat → Nat := fun j => if j = o + 8 + 3 * F (o + 2) then k else if j = o + 8 + 3 * F (o + 2) + 1 then a else if j = o + 8 + 3 * F (o + 2) + 2 then b else if j = o + 2 then F (o + 2) + 1 else if j = o + 3 then max (F (o + 3)) h else F j
def pFst (T : Nat → Nat) (n : Nat) (F : Nat → Nat) (o k q : Nat) : oE (Nat × Nat) := if k < 2 then pVar T n q else if k < 5 then pTold T n F o q else .ok (0, q)
def pSnd (T : Nat → Nat) (n : Nat) (F : Nat → Nat) (o k q : Nat) : oE (Nat × Nat) := if k < 4 then pTold T n F o q else .ok (0, q)
def pItem (T : Nat → Nat) (n o q : Nat) (F : Nat → Nat) (h : Nat) : oE (Nat × (Nat → Nat) × Nat) := if 7 < nmW T n q then .error (rT T n q) else if F (o + 2) = 12 then .error (5, tA T n q) else if h < tkn (nmW T n q) then .error (4, tA T n q) else bnd (pFst T n F o (nmW T n q) (tB T n q)) (fun a => bnd (pSnd T n F o (nmW T n q) a.2) (fun b => .ok (b.2, it1 F o (nmW T n q) a.1 b.1 (h + 1 - tkn (nmW T n q)), h + 1 - tkn (nmW T n q))))
def pIts (T : Nat → Nat) (n o : Nat) : Nat → Nat → (Nat → Nat) → Nat → oE (Nat × (Nat → Nat) × Nat)
  | 0, q, F, h => .ok (q, F, h)
  | m + 1, q, F, h => if tK T n q = 3 then .ok (q, F, h) else bnd (pItem T n o q F h) (fun r => pIts T n o m r.1 r.2.1 r.2.2)
def pAskL (T : Nat → Nat) (n : Nat) (s : pS) : oE pS := if s.2.2.2.1 = 4 then .error (5, tA T n s.1) else bnd (pLets T n (48 * s.2.2.2.1) 4 (tB T n s.1) s.2.2.1) (fun r1 => bnd (pSgn T n 4 r1.1) (fun q3 => bnd (pItem T n (48 * s.2.2.2.1) q3 r1.2 0) (fun r2 => bnd (pIts T n (48 * s.2.2.2.1) 12 r2.1 r2.2.1 r2.2.2) (fun r3 => if r3.2.2 = 1 then bnd (pSgn T n 3 r3.1) (fun q5 => .ok (q5, s.2.1, r3.2.1, s.2.2.2.1 + 1, s.2.2.2.2)) else .error (4, tA T n r3.1)))))
def pLine (T : Nat → Nat) (n : Nat) (s : pS) : oE pS := if nmW T n s.1 = 8 then pNodeL T n 0 s else if nmW T n s.1 = 4 then pNodeL T n 1 s else if nmW T n s.1 = 0 then pAtL T n s else if nmW T n s.1 = 2 then pNextL T n s else if nmW T n s.1 = 9 then pAskL T n s else .error (rT T n s.1)
def pLns (T : Nat → Nat) (n : Nat) : Nat → Nat → pS → oE (Nat × pS)
  | 0, k, s => .ok (k, s)
  | m + 1, k, s => if tK T n s.1 = 0 then .ok (k, s) else bnd (pLine T n s) (fun r => pLns T n m (k + 1) r)
def pS0 : pS := (0, fun _ => 0, fun _ => 0, 0, 0)
def pEnd (T : Nat → Nat) (n : Nat) (r : Nat × pS) : oE (Nat × pS) := if r.2.2.2.2.2 ≤ r.2.2.1 60 then .ok r else .error (6, tA T n r.2.1)
def pTxt (T : Nat → Nat) (n : Nat) : oE (Nat × pS) := bnd (pLns T n 320 0 pS0) (pEnd T n)
theorem pLets_s (T : Nat → Nat) (n o m q : Nat) (F : Nat → Nat) : pLets T n o (m + 1) q F = if nmW T n q = 11 ∨ nmW T n q = 12 then bnd (pLet T n o (if nmW T n q = 11 then 1 else 0) (tB T n q) F) (fun r => pLets T n o m r.1 r.2) else .ok (q, F) := rfl
theorem pIts_s (T : Nat → Nat) (n o m q : Nat) (F : Nat → Nat) (h : Nat) : pIts T n o (m + 1) q F h = if tK T n q = 3 then .ok (q, F, h) else bnd (pItem T n o q F h) (fun r => pIts T n o m r.1 r.2.1 r.2.2) := rfl
theorem pLns_s (T : Nat → Nat) (n m k : Nat) (s : pS) : pLns T n (m + 1) k s = if tK T n s.1 = 0 then .ok (k, s) else bnd (pLine T n s) (fun r => pLns T n m (k + 1) r) := rfl
theorem o3_le {T : Nat → Nat} {n q c : Nat} : o3 T n q c ≤ 3 := by
  unfold o3
  split <;> omega
theorem o3_1 {T : Nat → Nat} {n q c : Nat} (h : o3 T n q c < 3) : tK T n q = 1 ∧ tB T n q - tA T n q = 1 ∧ c ≤ T (tA T n q) ∧ T (tA T n q) < c + 3 ∧ o3 T n q c = T (tA T n q) - c := by
  by_cases z : tK T n q = 1 ∧ tB T n q - tA T n q = 1 ∧ c ≤ T (tA T n q) ∧ T (tA T n q) < c + 3
  · exact ⟨z.1, z.2.1, z.2.2.1, z.2.2.2, if_pos z⟩
  · unfold o3 at h
    rw [if_neg z] at h; omega
/-- what a fault may change of the class's places -/
def FU (f g : Nat → Nat → Int32) (x u : Nat) : Prop := ∀ z, z ≠ x + 1 → z ≠ x + 3 → ¬ (u ≤ z ∧ z < u + 58) → ∀ j, g z j = f z j
def ER (g : Nat → Nat → Int32) (x : Nat) (e : Nat × Nat) : Prop := g (x + 3) 2 = nI e.1 ∧ g (x + 3) 3 = nI e.2
/-- the tape alone has gone on -/
def NX (f g : Nat → Nat → Int32) (x : Nat) (T : Nat → Nat) (n q : Nat) : Prop := (∀ z, z ≠ x + 1 → ∀ j, g z j = f z j) ∧ TP g (x + 1) T n ∧ TK g (x + 1) T n q
theorem FU.rf (f : Nat → Nat → Int32) (x u : Nat) : FU f f x u := fun _ _ _ _ _ => rfl
theorem FU.tr {f g h : Nat → Nat → Int32} {x u : Nat} (h1 : FU f g x u) (h2 : FU g h x u) : FU f h x u := fun z a b c j => (h2 z a b c j).trans (h1 z a b c j)
theorem NX.fu {f g : Nat → Nat → Int32} {x u n q : Nat} {T : Nat → Nat} (h : NX f g x T n q) : FU f g x u := fun z a _ _ j => h.1 z a j
section P57
variable {X : cX} {d : Nat} {μ : mM} {K : Option Value → mM → Prop} {f : Nat → Nat → Int32} {x t u q n : Nat} {T : Nat → Nat}
/-- the token that is there -/
def AT (f : Nat → Nat → Int32) (x : Nat) (T : Nat → Nat) (n q : Nat) : Prop := TP f (x + 1) T n ∧ q ≤ n ∧ TK f (x + 1) T n q
theorem c_adv (hw : WF9 μ (x + 1)) (h : AT f x T n q) (hK : ∀ g, NX f g x T n (tB T n q) → AT g x T n (tB T n q) → K none (sI μ g)) : Ct X (Rm d) mX9_advance [.ref (x + 1)] (sI μ f) K := by
  have b := (tB_b (T := T) h.2.1).2
  refine c_advance hw h.1 h.2.2.2.2 b (fun g r1 r2 r3 => ?_)
  have tp : TP g (x + 1) T n := ⟨h.1.1, h.1.2.1, by rw [r2 1 (by decide)]; exact h.1.2.2.1, fun i hi => by rw [r1 _ (by omega)]; exact h.1.2.2.2 i hi⟩
  exact hK g ⟨r1, tp, r3⟩ ⟨tp, b, r3⟩
theorem c_refuse {c : Nat} (hw4 : WF4 μ (x + 3)) (hw : WF9 μ (x + 1)) (h : AT f x T n q) (hK : ∀ g, FU f g x u → ER g x (c, tA T n q) → K (some (.int 0)) (sI μ g)) : Ct X (Rm d) mX4_refuse [.ref (x + 3), .ref (x + 1), .int (nI c)] (sI μ f) K := by
  refine Ct_of rfl (Nat.le_of_ble_eq_true rfl) (b_X4_refuse_0 hw4 hw ?_)
  rw [wi_sI, iv_sI, wi_sI, u2_x (by omega), h.2.2.2.1]
  exact hK _ (fun z _ b _ j => by rw [u2_x b, u2_x b]) ⟨by rw [u2_k (by decide), u2_s], u2_s _ _ _ _⟩
theorem c_refT (hw4 : WF4 μ (x + 3)) (hw : WF9 μ (x + 1)) (h : AT f x T n q) (hK : ∀ g, FU f g x u → ER g x (rT T n q) → K (some (.int 0)) (sI μ g)) : Ct X (Rm d) mX4_refuseToken [.ref (x + 3), .ref (x + 1)] (sI μ f) K := by
  have tl := tK_le (T := T) (n := n) (q := q)
  have k4 : (iv (sI μ f) (x + 1) 2 = (4 : Int32)) ↔ tK T n q = 5 := (h.2.2.k1 (c := 1) (m := 4) (by decide) (by decide)).trans (ck_4 tl)
  have A : ∀ c, c = (rT T n q).1 → G X (Rm d) mX4_refuseToken 14 [(0, .ref (x + 3)), (1, .ref (x + 1))] [.int (nI c), .ref (x + 3)] (sI μ f) 0 0 K := fun c hc => by
    refine b_X4_refuseToken_14 hw4 hw hw4 ?_
    rw [wi_sI, iv_sI, wi_sI, u2_x (by omega), h.2.2.2.1]
    exact hK _ (fun z _ b _ j => by rw [u2_x b, u2_x b]) ⟨by rw [u2_k (by decide), u2_s, hc], u2_s _ _ _ _⟩
  refine Ct_of rfl (Nat.le_of_ble_eq_true rfl) (b_X4_refuseToken_0 (hw9_r1 := hw) (h := fun c => A 2 ?_) (h_2 := fun c => A 1 ?_))
  · rw [k4] at c
    unfold rT; rw [if_neg c]
  · rw [k4] at c
    unfold rT; rw [if_pos c]
theorem o3I_n {k : Nat} (h : ¬ k < 3) : o3I k = -1 := if_neg h
theorem o3I_p {k : Nat} (h : k < 3) : o3I k = nI k := if_pos h
theorem c_takeVar (hw4 : WF4 μ (x + 3)) (hw : WF9 μ (x + 1)) (h : AT f x T n q) (hE : ∀ g e, pVar T n q = .error e → FU f g x u → ER g x e → K (some (.int (-1))) (sI μ g)) (hO : ∀ g r, pVar T n q = .ok r → r.1 < 3 → NX f g x T n r.2 → AT g x T n r.2 → K (some (.int (nI r.1))) (sI μ g)) : Ct X (Rm (d + 1)) mX4_takeVariable [.ref (x + 3), .ref (x + 1)] (sI μ f) K := by
  refine Ct_of rfl (Nat.le_of_ble_eq_true rfl) (b_X4_takeVariable_0 hw (c_o3 (c := 120) hw h.1 h.2.1 h.2.2 (by decide) ?_))
  by_cases z : o3 T n q 120 < 3
  · rw [o3I_p z]
    have e : pVar T n q = .ok (o3 T n q 120, tB T n q) := if_pos z
    refine b_X4_takeVariable_6 (hw9_r1 := hw) (hc_advance := fun _ => ?_) (hw4_r0 := hw4) (hc_refuseToken := fun c => absurd (nI_pos' (by omega)) c)
    exact c_adv hw h (fun g r1 r2 => b_X4_takeVariable_24 (hO g _ e z r1 r2))
  · rw [o3I_n z]
    have e : pVar T n q = .error (rT T n q) := if_neg z
    refine b_X4_takeVariable_6 (hw9_r1 := hw) (hc_advance := fun c => absurd c (by decide)) (hw4_r0 := hw4) (hc_refuseToken := fun _ => ?_)
    exact c_refT hw4 hw h (fun g r1 r2 => b_X4_takeVariable_16 (b_X4_takeVariable_24 (hE g _ e r1 r2)))
theorem c_takeSign {k : Nat} (hw4 : WF4 μ (x + 3)) (hw : WF9 μ (x + 1)) (h : AT f x T n q) (hk : k = 3 ∨ k = 4) (hE : ∀ g e, pSgn T n k q = .error e → FU f g x u → ER g x e → K (some (.int 0)) (sI μ g)) (hO : ∀ g r, pSgn T n k q = .ok r → NX f g x T n r → AT g x T n r → K (some (.int 1)) (sI μ g)) : Ct X (Rm (d + 1)) mX4_takeSign [.ref (x + 3), .ref (x + 1), .int (nI (if k = 3 then 59 else 58))] (sI μ f) K := by
  refine Ct_of rfl (Nat.le_of_ble_eq_true rfl) (b_X4_takeSign_0 hw (c_isSign hw h.1 h.2.1 h.2.2 hk ?_))
  by_cases z : tK T n q = k
  · rw [if_pos z]
    have e : pSgn T n k q = .ok (tB T n q) := if_pos z
    refine b_X4_takeSign_5 (hw9_r1 := hw) (hc_advance := fun _ => ?_) (hw4_r0 := hw4) (hc_refuseToken := fun c => absurd c (by decide))
    exact c_adv hw h (fun g r1 r2 => b_X4_takeSign_18 (hO g _ e r1 r2))
  · rw [if_neg z]
    have e : pSgn T n k q = .error (rT T n q) := if_neg z
    refine b_X4_takeSign_5 (hw9_r1 := hw) (hc_advance := fun c => absurd rfl c) (hw4_r0 := hw4) (hc_refuseToken := fun _ => ?_)
    exact c_refT hw4 hw h (fun g r1 r2 => b_X4_takeSign_13 (hE g _ e r1 r2) (Or.inl rfl))
theorem c_takeTru (hw : WF9 μ (x + 1)) (h : AT f x T n q) (hO : ∀ g, NX f g x T n (pTru T n q).2 → AT g x T n (pTru T n q).2 → K (some (.int (nI (pTru T n q).1))) (sI μ g)) : Ct X (Rm (d + 5)) mX4_takeTruth [.ref (x + 1)] (sI μ f) K := by
  refine Ct_of rfl (Nat.le_of_ble_eq_true rfl) (b_X4_takeTruth_0 hw (c_isName (i := 3) hw h.1 h.2.1 h.2.2 (by decide) ?_))
  by_cases z : nmW T n q = sW 3
  · rw [if_pos z]
    have e : pTru T n q = (1, tB T n q) := if_pos z
    rw [e] at hO
    refine b_X4_takeTruth_6 (hw9_r0 := hw) (hc_advance := fun _ => ?_) (hK := fun c => absurd c (by decide))
    exact c_adv hw h (fun g r1 r2 => b_X4_takeTruth_15 (hO g r1 r2))
  · rw [if_neg z]
    have e : pTru T n q = (2, q) := if_neg z
    rw [e] at hO
    refine b_X4_takeTruth_6 (hw9_r0 := hw) (hc_advance := fun c => absurd rfl c) (hK := fun _ => ?_)
    exact hO f ⟨fun _ _ _ => rfl, h.1, h.2.2⟩ h
/-- and the furthest node -/
def NG (f g : Nat → Nat → Int32) (x : Nat) (m : Nat) : Prop := (∀ z, z ≠ x + 1 → z ≠ x + 3 → ∀ j, g z j = f z j) ∧ (∀ j, j ≠ 1 → g (x + 3) j = f (x + 3) j) ∧ g (x + 3) 1 = nI m - 1
theorem NG.fu {g : Nat → Nat → Int32} {m : Nat} (h : NG f g x m) : FU f g x u := fun z a b _ j => h.1 z a b j
theorem c_takeNod {m : Nat} (hw4 : WF4 μ (x + 3)) (hw : WF9 μ (x + 1)) (h : AT f x T n q) (hm : f (x + 3) 1 = nI m - 1) (hm6 : m ≤ 6) (hE : ∀ g e, pNod T n q = .error e → FU f g x u → ER g x e → K (some (.int (-1))) (sI μ g)) (hO : ∀ g r, pNod T n q = .ok r → r.1 < 6 → NG f g x (max m (r.1 + 1)) → AT g x T n r.2 → K (some (.int (nI r.1))) (sI μ g)) : Ct X (Rm (d + 1)) mX4_takeNodeNumber [.ref (x + 3), .ref (x + 1)] (sI μ f) K := by
  refine Ct_of rfl (Nat.le_of_ble_eq_true rfl) (b_X4_takeNodeNumber_0 hw (c_number hw h.1 h.2.1 h.2.2 ?_))
  by_cases z : tK T n q = 2
  · rw [if_pos z]
    have nl := num_lt h.2.1 z
    have l6 : (nI (num T n q) < (6 : Int32)) ↔ num T n q < 6 := nI_ltI (b := 6) (by omega) (by decide)
    refine b_X4_takeNodeNumber_4 (hw4_r0 := hw4) (hw9_r1 := hw) (hc_advance := fun _ c => ?_) (hc_refuse := fun _ c => ?_) (hc_refuseToken := fun c => absurd (nI_pos' (by omega)) c)
    · rw [l6] at c
      have e : pNod T n q = .ok (num T n q, tB T n q) := by unfold pNod; rw [if_pos z, if_pos c]
      have em : (if iv (sI μ f) (x + 3) 1 < nI (num T n q) then nI (num T n q) else iv (sI μ f) (x + 3) 1) = nI (max m (num T n q + 1)) - 1 := by
        rw [iv_sI, hm]
        have e1 : (nI m - 1).toInt = (m : Int) - 1 := pk_sub_toInt (b := 1) (by omega) (by decide)
        have e2 : (nI m - 1 < nI (num T n q)) ↔ m < num T n q + 1 := by
          rw [Int32.lt_iff_toInt_lt, e1, nI_toInt (by omega)]; omega
        by_cases w : m < num T n q + 1
        · rw [if_pos (e2.mpr w), Nat.max_eq_right (by omega), nI_pred]
        · rw [if_neg (fun v => w (e2.mp v)), Nat.max_eq_left (by omega)]
      rw [em, wi_sI]
      have h2 : AT (u2 f (x + 3) 1 (nI (max m (num T n q + 1)) - 1)) x T n q := ⟨⟨h.1.1, h.1.2.1, by rw [u2_x (by omega)]; exact h.1.2.2.1, fun i hi => by rw [u2_x (by omega)]; exact h.1.2.2.2 i hi⟩, h.2.1, by rw [u2_x (by omega)]; exact h.2.2.1, by rw [u2_x (by omega)]; exact h.2.2.2.1, by rw [u2_x (by omega)]; exact h.2.2.2.2⟩
      refine c_adv hw h2 (fun g r1 r2 => b_X4_takeNodeNumber_48 (hO g _ e c ⟨fun w a b j => by rw [r1.1 w a, u2_x b], fun j hj => by rw [r1.1 _ (by omega), u2_k hj], by rw [r1.1 _ (by omega), u2_s]⟩ r2))
    · rw [l6] at c
      have e : pNod T n q = .error (3, tA T n q) := by unfold pNod; rw [if_pos z, if_neg c]
      exact c_refuse (c := 3) hw4 hw h (fun g r1 r2 => b_X4_takeNodeNumber_29 (hE g _ e r1 r2))
  · rw [if_neg z]
    have e : pNod T n q = .error (rT T n q) := by unfold pNod; rw [if_neg z]
    refine b_X4_takeNodeNumber_4 (hw4_r0 := hw4) (hw9_r1 := hw) (hc_advance := fun c => absurd c (by decide)) (hc_refuse := fun c => absurd c (by decide)) (hc_refuseToken := fun _ => ?_)
    exact c_refT hw4 hw h (fun g r1 r2 => b_X4_takeNodeNumber_14 (hE g _ e r1 r2))
end P57
