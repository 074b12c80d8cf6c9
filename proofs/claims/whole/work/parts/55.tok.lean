def spG (P : Nat → Bool) : Nat → Nat → Nat
  | 0, s => s
  | k + 1, s => if P s = true then spG P k (s + 1) else s
/-- from s on, behind all that are P -/
def spn (P : Nat → Bool) (n s : Nat) : Nat := spG P (n - s) s
theorem spn_n {P : Nat → Bool} {n s : Nat} (h : n ≤ s) : spn P n s = s := by
  unfold spn
  rw [show n - s = 0 by omega]; rfl
theorem spn_s {P : Nat → Bool} {n s : Nat} (h : s < n) (hp : P s = true) : spn P n s = spn P n (s + 1) := by
  unfold spn
  rw [show n - s = (n - (s + 1)) + 1 by omega]
  show (if P s = true then spG P (n - (s + 1)) (s + 1) else s) = _
  rw [if_pos hp]
theorem spn_x {P : Nat → Bool} {n s : Nat} (h : s < n) (hp : ¬ P s = true) : spn P n s = s := by
  unfold spn
  rw [show n - s = (n - (s + 1)) + 1 by omega]
  show (if P s = true then spG P (n - (s + 1)) (s + 1) else s) = _
  rw [if_neg hp]
theorem spn_b {P : Nat → Bool} {n : Nat} : ∀ s, s ≤ n → s ≤ spn P n s ∧ spn P n s ≤ n := by
  refine dn n ?_ ?_
  · rw [spn_n (Nat.le_refl _)]; omega
  · intro s hs ih
    by_cases q : P s = true
    · rw [spn_s hs q]; omega
    · rw [spn_x hs q]; omega
theorem spn_in {P : Nat → Bool} {n : Nat} : ∀ s, s ≤ n → ∀ i, s ≤ i → i < spn P n s → P i = true := by
  refine dn n ?_ ?_
  · intro i h1 h2
    rw [spn_n (Nat.le_refl _)] at h2; omega
  · intro s hs ih i h1 h2
    by_cases q : P s = true
    · by_cases e : i = s
      · rw [e]; exact q
      · rw [spn_s hs q] at h2; exact ih i (by omega) h2
    · rw [spn_x hs q] at h2; omega
def pSp (T : Nat → Nat) (i : Nat) : Bool := decide (T i = 32)
def pLt (T : Nat → Nat) (i : Nat) : Bool := decide (97 ≤ T i ∧ T i ≤ 122)
def pDg (T : Nat → Nat) (i : Nat) : Bool := decide (48 ≤ T i ∧ T i ≤ 57)
/-- the token that is read from q on: where it begins, where its letters, its digits end -/
def tA (T : Nat → Nat) (n q : Nat) : Nat := spn (pSp T) n q
def tN (T : Nat → Nat) (n q : Nat) : Nat := spn (pLt T) n (tA T n q)
def tD (T : Nat → Nat) (n q : Nat) : Nat := spn (pDg T) n (tA T n q)
/-- where it ends; which it is: 0 the end, 1 a name, 2 a number, 3 ; 4 : 5 none of these -/
def tB (T : Nat → Nat) (n q : Nat) : Nat := if tA T n q < tN T n q then tN T n q else if tA T n q < tD T n q then tD T n q else if n ≤ tA T n q then tA T n q else tA T n q + 1
def tK (T : Nat → Nat) (n q : Nat) : Nat := if tA T n q < tN T n q then 1 else if tA T n q < tD T n q then (if tD T n q - tA T n q ≤ 2 then 2 else 5) else if n ≤ tA T n q then 0 else if T (tA T n q) = 59 then 3 else if T (tA T n q) = 58 then 4 else 5
def ck (k : Nat) : Nat := if k = 5 then 4 else if k = 4 then 3 else k
section P55a
variable {T : Nat → Nat} {n q : Nat}
theorem tA_b (h : q ≤ n) : q ≤ tA T n q ∧ tA T n q ≤ n := spn_b q h
theorem tN_b (h : q ≤ n) : tA T n q ≤ tN T n q ∧ tN T n q ≤ n := spn_b _ (tA_b h).2
theorem tD_b (h : q ≤ n) : tA T n q ≤ tD T n q ∧ tD T n q ≤ n := spn_b _ (tA_b h).2
theorem tB_b (h : q ≤ n) : tA T n q ≤ tB T n q ∧ tB T n q ≤ n := by
  have a := tA_b (T := T) h
  have b := tN_b (T := T) h
  have c := tD_b (T := T) h
  unfold tB
  repeat' split
  all_goals omega
theorem tK_le : tK T n q ≤ 5 := by
  unfold tK
  repeat' split
  all_goals omega
theorem tK_0 (h : tK T n q = 0) : n ≤ tA T n q := by
  unfold tK at h
  repeat' split at h
  all_goals omega
theorem tK_n0 (h : q ≤ n) (h0 : tK T n q ≠ 0) : tA T n q < tB T n q ∧ tA T n q < n := by
  have a := tA_b (T := T) h
  have b := tN_b (T := T) h
  have c := tD_b (T := T) h
  unfold tK at h0
  unfold tB
  by_cases q1 : tA T n q < tN T n q
  · rw [if_pos q1]; omega
  · rw [if_neg q1] at h0 ⊢
    by_cases q2 : tA T n q < tD T n q
    · rw [if_pos q2]; omega
    · rw [if_neg q2] at h0 ⊢
      by_cases q3 : n ≤ tA T n q
      · rw [if_pos q3] at h0; omega
      · rw [if_neg q3]; omega
theorem tK_1 (h : tK T n q = 1) : tA T n q < tN T n q ∧ tB T n q = tN T n q := by
  unfold tK at h
  by_cases q1 : tA T n q < tN T n q
  · exact ⟨q1, if_pos q1⟩
  · rw [if_neg q1] at h
    repeat' split at h
    all_goals omega
theorem tK_2 (h : tK T n q = 2) : ¬ tA T n q < tN T n q ∧ tA T n q < tD T n q ∧ tD T n q - tA T n q ≤ 2 ∧ tB T n q = tD T n q := by
  unfold tK at h
  unfold tB
  by_cases q1 : tA T n q < tN T n q
  · rw [if_pos q1] at h; omega
  · rw [if_neg q1] at h ⊢
    by_cases q2 : tA T n q < tD T n q
    · rw [if_pos q2] at h ⊢
      by_cases q3 : tD T n q - tA T n q ≤ 2
      · exact ⟨q1, q2, q3, rfl⟩
      · rw [if_neg q3] at h; omega
    · rw [if_neg q2] at h
      repeat' split at h
      all_goals omega
theorem tK_34 (h : tK T n q = 3 ∨ tK T n q = 4) : tB T n q = tA T n q + 1 ∧ T (tA T n q) = (if tK T n q = 3 then 59 else 58) ∧ tA T n q < n := by
  unfold tK at h ⊢
  unfold tB
  by_cases q1 : tA T n q < tN T n q
  · rw [if_pos q1] at h; omega
  · rw [if_neg q1] at h ⊢
    by_cases q2 : tA T n q < tD T n q
    · rw [if_pos q2] at h
      split at h <;> omega
    · rw [if_neg q2] at h ⊢
      by_cases q3 : n ≤ tA T n q
      · rw [if_pos q3] at h; omega
      · rw [if_neg q3] at h ⊢
        rw [if_neg q1, if_neg q2, if_neg q3]
        refine ⟨rfl, ?_, by omega⟩
        by_cases q4 : T (tA T n q) = 59
        · rw [if_pos q4, if_pos rfl]; exact q4
        · rw [if_neg q4] at h ⊢
          by_cases q5 : T (tA T n q) = 58
          · rw [if_pos q5, if_neg (by decide)]; exact q5
          · rw [if_neg q5] at h; omega
end P55a
/-- the class's tape at a: the token from q on -/
def TK (f : Nat → Nat → Int32) (a : Nat) (T : Nat → Nat) (n q : Nat) : Prop := f a 2 = nI (ck (tK T n q)) ∧ f a 3 = nI (tA T n q) ∧ f a 4 = nI (tB T n q)
def TP (f : Nat → Nat → Int32) (a : Nat) (T : Nat → Nat) (n : Nat) : Prop := n ≤ 320 ∧ (∀ i, i < n → T i ≤ 127) ∧ f a 1 = nI n ∧ ∀ i, i < n → f (a + 1) i = nI (T i)
section P55
variable {X : cX} {d : Nat} {μ : mM} {K : Option Value → mM → Prop} {f : Nat → Nat → Int32} {a s n : Nat} {T : Nat → Nat}
theorem c_advance (hw : WF9 μ a) (hT : TP f a T n) (h4 : f a 4 = nI s) (hs : s ≤ n) (hK : ∀ f', (∀ z, z ≠ a → ∀ j, f' z j = f z j) → (∀ j, j < 2 → f' a j = f a j) → TK f' a T n s → K none (sI μ f')) : Ct X (Rm d) mX9_advance [.ref a] (sI μ f) K := by
  obtain ⟨hn, hb, h1, hc⟩ := hT
  have aB := tA_b (T := T) hs
  have nB := tN_b (T := T) hs
  have dB := tD_b (T := T) hs
  let V : (Nat → Nat → Int32) → Nat → Nat → Prop := fun g x y => (∀ z, z ≠ a → ∀ j, g z j = f z j) ∧ (∀ j, j < 2 → g a j = f a j) ∧ g a 3 = nI x ∧ g a 4 = nI y
  have V1 : ∀ {g x y}, V g x y → g a 1 = nI n := fun h => (h.2.1 1 (by decide)).trans h1
  have Vc : ∀ {g x y i}, V g x y → i < n → g (a + 1) i = nI (T i) := fun h hi => (h.1 _ (by omega) _).trans (hc _ hi)
  have V3 : ∀ {g x y x'}, V g x y → V (u2 g a 3 (nI x')) x' y := fun h => ⟨fun z hz j => by rw [u2_x hz]; exact h.1 z hz j, fun j hj => by rw [u2_k (by omega)]; exact h.2.1 j hj, u2_s _ _ _ _, by rw [u2_k (by decide)]; exact h.2.2.2⟩
  have V4 : ∀ {g x y y'}, V g x y → V (u2 g a 4 (nI y')) x y' := fun h => ⟨fun z hz j => by rw [u2_x hz]; exact h.1 z hz j, fun j hj => by rw [u2_k (by omega)]; exact h.2.1 j hj, by rw [u2_k (by decide)]; exact h.2.2.1, u2_s _ _ _ _⟩
  have E : ∀ {g x y k}, V g x y → x = tA T n s → y = tB T n s → k = ck (tK T n s) → K none (sI μ (u2 g a 2 (nI k))) := fun {g x y k} h e1 e2 e3 => by
    refine hK _ (fun z hz j => by rw [u2_x hz]; exact h.1 z hz j) (fun j hj => by rw [u2_k (by omega)]; exact h.2.1 j hj) ⟨by rw [u2_s, e3], by rw [u2_k (by decide), ← e1]; exact h.2.2.1, by rw [u2_k (by decide), ← e2]; exact h.2.2.2⟩
  have L175 : ∀ g, V g (tA T n s) (tD T n s) → ¬ tA T n s < tN T n s → G X (Rm d) mX9_advance 175 [(0, .ref a)] [] (sI μ g) 0 0 K := fun g h q1 => by
    have i1 : iv (sI μ g) a 1 = nI n := V1 h
    have i3 : iv (sI μ g) a 3 = nI (tA T n s) := h.2.2.1
    have i4 : iv (sI μ g) a 4 = nI (tD T n s) := h.2.2.2
    have c1 : (iv (sI μ g) a 4 ≤ iv (sI μ g) a 3) ↔ ¬ tA T n s < tD T n s := by rw [i3, i4, nI_leI (by omega) (by omega)]; omega
    have c2 : (iv (sI μ g) a 3 < iv (sI μ g) a 1) ↔ tA T n s < n := by rw [i3, i1]; exact nI_ltI (by omega) (by omega)
    have e4 : iv (sI μ g) a 3 + 1 = nI (tA T n s + 1) := by rw [i3, nI_1]
    have h' : V (u2 g a 4 (nI (tA T n s + 1))) (tA T n s) (tA T n s + 1) := V4 h
    have S : ∀ k, ¬ tA T n s < tD T n s → tA T n s < n → k = ck (tK T n s) → K none (sI μ (u2 (u2 g a 4 (nI (tA T n s + 1))) a 2 (nI k))) := fun k q2 q3 q4 => E h' rfl (by unfold tB; rw [if_neg q1, if_neg q2, if_neg (by omega)]) q4
    have tk : ¬ tA T n s < tD T n s → tA T n s < n → tK T n s = if T (tA T n s) = 59 then 3 else if T (tA T n s) = 58 then 4 else 5 := fun q2 q3 => by unfold tK; rw [if_neg q1, if_neg q2, if_neg (by omega)]
    have ic : tA T n s < n → u2 g a 4 (nI (tA T n s + 1)) (a + 1) (tA T n s) = nI (T (tA T n s)) := fun q => by rw [u2_x (by omega)]; exact Vc h q
    have z59 : tA T n s < n → ((nI (T (tA T n s)) = (59 : Int32)) ↔ T (tA T n s) = 59) := fun q => nI_eq (b := 59) (by have := hb _ q; omega) (by decide)
    have z58 : tA T n s < n → ((nI (T (tA T n s)) = (58 : Int32)) ↔ T (tA T n s) = 58) := fun q => nI_eq (b := 58) (by have := hb _ q; omega) (by decide)
    refine b_X9_advance_175 (j0 := tA T n s) (hw9_r0 := hw) (hi_j0 := fun _ _ => ?_) (hb := fun _ q => by rw [c2] at q; omega) (h := fun d1 d2 d3 => b_X9_advance_265 (b_X9_advance_270 hw ?_)) (hi_j0_2 := fun _ _ _ => ?_) (hb_2 := fun _ q _ => by rw [c2] at q; omega) (h_2 := fun d1 d2 d3 d4 => b_X9_advance_270 hw ?_) (h_3 := fun d1 d2 d3 d4 => b_X9_advance_265 (b_X9_advance_270 hw ?_)) (hK := fun d1 d2 => ?_) (h_4 := fun d1 d2 => b_X9_advance_205 hw ?_) (h_5 := fun d1 d2 => b_X9_advance_205 hw ?_)
    · rw [e4, wi_sI, iv_sI, u2_k (by decide)]; exact h.2.2.1
    · rw [c1] at d1; rw [c2] at d2
      rw [e4, wi_sI, iv_sI, ic d2, z59 d2] at d3
      rw [e4, wi_sI, wi_sI]
      exact S 3 d1 d2 (by rw [tk d1 d2, if_pos d3]; rfl)
    · rw [e4, wi_sI, iv_sI, u2_k (by decide)]; exact h.2.2.1
    · rw [c1] at d1; rw [c2] at d2
      rw [e4, wi_sI, iv_sI, ic d2, z59 d2] at d3
      rw [e4, wi_sI, iv_sI, ic d2, z58 d2] at d4
      rw [e4, wi_sI, wi_sI]
      exact S 4 d1 d2 (by rw [tk d1 d2, if_neg d3, if_neg d4]; rfl)
    · rw [c1] at d1; rw [c2] at d2
      rw [e4, wi_sI, iv_sI, ic d2, z59 d2] at d3
      rw [e4, wi_sI, iv_sI, ic d2, z58 d2] at d4
      rw [e4, wi_sI, wi_sI]
      exact S 3 d1 d2 (by rw [tk d1 d2, if_neg d3, if_pos d4]; rfl)
    · rw [c1] at d1; rw [c2] at d2
      rw [wi_sI]
      refine E (k := 0) h rfl ?_ ?_
      · unfold tB; rw [if_neg q1, if_neg d1, if_pos (by omega)]; omega
      · unfold tK; rw [if_neg q1, if_neg d1, if_pos (by omega)]; rfl
    · rw [c1] at d1
      rw [i3, i4, pk_sub (by omega), show (2 : Int32) = nI 2 from rfl, nI_leI (by omega) (by decide)] at d2
      rw [wi_sI]
      refine E (k := 2) h rfl ?_ ?_
      · unfold tB; rw [if_neg q1, if_pos (by omega)]
      · unfold tK; rw [if_neg q1, if_pos (by omega), if_pos d2]; rfl
    · rw [c1] at d1
      rw [i3, i4, pk_sub (by omega), show (2 : Int32) = nI 2 from rfl, nI_leI (by omega) (by decide)] at d2
      rw [wi_sI]
      refine E (k := 4) h rfl ?_ ?_
      · unfold tB; rw [if_neg q1, if_pos (by omega)]
      · unfold tK; rw [if_neg q1, if_pos (by omega), if_neg d2]; rfl
  have L123 : ∀ x, x ≤ n → spn (pDg T) n x = tD T n s → ∀ g, V g (tA T n s) x → ¬ tA T n s < tN T n s → G X (Rm d) mX9_advance 123 [(0, .ref a)] [] (sI μ g) 0 0 K := by
    refine dn n ?_ ?_
    · intro hx g h q1
      rw [spn_n (Nat.le_refl _)] at hx
      have le : iv (sI μ g) a 1 ≤ iv (sI μ g) a 4 := by rw [iv_sI, iv_sI, V1 h, h.2.2.2]; exact le_r _
      have h : V g (tA T n s) (tD T n s) := by rw [← hx]; exact h
      exact b_X9_advance_123 (j0 := 0) (hw9_r0 := hw) (h := fun _ => L175 g h q1) (hi_j0 := fun c => absurd le c) (hb := fun c => absurd le c) (h_2 := fun c => absurd le c) (hi_j0_2 := fun c => absurd le c) (hb_2 := fun c => absurd le c) (h_3 := fun c => absurd le c) (h_4 := fun c => absurd le c)
    · intro x hx ih hsp g h q1
      have nle : ¬ iv (sI μ g) a 1 ≤ iv (sI μ g) a 4 := by rw [iv_sI, iv_sI, V1 h, h.2.2.2]; exact ge_c hx (by omega)
      have ic : iv (sI μ g) (a + 1) x = nI (T x) := Vc h hx
      have bx := hb x hx
      have l1 : (iv (sI μ g) (a + 1) x < (48 : Int32)) ↔ T x < 48 := by rw [ic]; exact nI_ltI (b := 48) (by omega) (by decide)
      have l2 : ((57 : Int32) < iv (sI μ g) (a + 1) x) ↔ 57 < T x := by rw [ic]; exact nI_ltI (a := 57) (by decide) (by omega)
      have X1 : ¬ (48 ≤ T x ∧ T x ≤ 57) → G X (Rm d) mX9_advance 175 [(0, .ref a)] [] (sI μ g) 0 0 K := fun q => by
        rw [spn_x hx (by unfold pDg; rw [decide_eq_true_iff]; exact q)] at hsp
        rw [hsp] at h
        exact L175 g h q1
      refine b_X9_advance_123 (j0 := x) (hw9_r0 := hw) (h := fun c => absurd c nle) (hi_j0 := fun _ => h.2.2.2) (hb := fun _ => by omega) (h_2 := fun _ c => X1 (by rw [l1] at c; omega)) (hi_j0_2 := fun _ _ => h.2.2.2) (hb_2 := fun _ _ => by omega) (h_3 := fun _ _ c => X1 (by rw [l2] at c; omega)) (h_4 := fun _ c1 c2 => ?_)
      rw [l1] at c1; rw [l2] at c2
      rw [wi_sI, iv_sI, h.2.2.2, nI_1]
      exact ih (by rw [← hsp, spn_s hx (by unfold pDg; rw [decide_eq_true_iff]; omega)]) _ (V4 h) q1
  have L106 : ∀ g, V g (tA T n s) (tN T n s) → G X (Rm d) mX9_advance 106 [(0, .ref a)] [] (sI μ g) 0 0 K := fun g h => by
    have c1 : (iv (sI μ g) a 4 ≤ iv (sI μ g) a 3) ↔ ¬ tA T n s < tN T n s := by rw [iv_sI, iv_sI, h.2.2.1, h.2.2.2, nI_leI (by omega) (by omega)]; omega
    refine b_X9_advance_106 (hw9_r0 := hw) (h := fun c => ?_) (hK := fun c => ?_)
    · rw [c1] at c
      have e : tN T n s = tA T n s := by omega
      rw [e] at h
      exact L123 _ aB.2 rfl g h c
    · rw [c1] at c
      rw [wi_sI]
      refine E (k := 1) h rfl ?_ ?_
      · unfold tB; rw [if_pos (by omega)]
      · unfold tK; rw [if_pos (by omega)]; rfl
  have L54 : ∀ x, x ≤ n → spn (pLt T) n x = tN T n s → ∀ g, V g (tA T n s) x → G X (Rm d) mX9_advance 54 [(0, .ref a)] [] (sI μ g) 0 0 K := by
    refine dn n ?_ ?_
    · intro hx g h
      rw [spn_n (Nat.le_refl _)] at hx
      have le : iv (sI μ g) a 1 ≤ iv (sI μ g) a 4 := by rw [iv_sI, iv_sI, V1 h, h.2.2.2]; exact le_r _
      have h : V g (tA T n s) (tN T n s) := by rw [← hx]; exact h
      exact b_X9_advance_54 (j0 := 0) (hw9_r0 := hw) (h := fun _ => L106 g h) (hi_j0 := fun c => absurd le c) (hb := fun c => absurd le c) (h_2 := fun c => absurd le c) (hi_j0_2 := fun c => absurd le c) (hb_2 := fun c => absurd le c) (h_3 := fun c => absurd le c) (h_4 := fun c => absurd le c)
    · intro x hx ih hsp g h
      have nle : ¬ iv (sI μ g) a 1 ≤ iv (sI μ g) a 4 := by rw [iv_sI, iv_sI, V1 h, h.2.2.2]; exact ge_c hx (by omega)
      have ic : iv (sI μ g) (a + 1) x = nI (T x) := Vc h hx
      have bx := hb x hx
      have l1 : (iv (sI μ g) (a + 1) x < (97 : Int32)) ↔ T x < 97 := by rw [ic]; exact nI_ltI (b := 97) (by omega) (by decide)
      have l2 : ((122 : Int32) < iv (sI μ g) (a + 1) x) ↔ 122 < T x := by rw [ic]; exact nI_ltI (a := 122) (by decide) (by omega)
      have X1 : ¬ (97 ≤ T x ∧ T x ≤ 122) → G X (Rm d) mX9_advance 106 [(0, .ref a)] [] (sI μ g) 0 0 K := fun q => by
        rw [spn_x hx (by unfold pLt; rw [decide_eq_true_iff]; exact q)] at hsp
        rw [hsp] at h
        exact L106 g h
      refine b_X9_advance_54 (j0 := x) (hw9_r0 := hw) (h := fun c => absurd c nle) (hi_j0 := fun _ => h.2.2.2) (hb := fun _ => by omega) (h_2 := fun _ c => X1 (by rw [l1] at c; omega)) (hi_j0_2 := fun _ _ => h.2.2.2) (hb_2 := fun _ _ => by omega) (h_3 := fun _ _ c => X1 (by rw [l2] at c; omega)) (h_4 := fun _ c1 c2 => ?_)
      rw [l1] at c1; rw [l2] at c2
      rw [wi_sI, iv_sI, h.2.2.2, nI_1]
      exact ih (by rw [← hsp, spn_s hx (by unfold pLt; rw [decide_eq_true_iff]; omega)]) _ (V4 h)
  have L46 : ∀ g y, V g (tA T n s) y → G X (Rm d) mX9_advance 46 [(0, .ref a)] [] (sI μ g) 0 0 K := fun g y h => by
    refine b_X9_advance_46 hw ?_
    rw [wi_sI, iv_sI, h.2.2.1]
    exact L54 _ aB.2 rfl _ (V4 h)
  have L8 : ∀ x, x ≤ n → spn (pSp T) n x = tA T n s → ∀ g, V g x s → G X (Rm d) mX9_advance 8 [(0, .ref a)] [] (sI μ g) 0 0 K := by
    refine dn n ?_ ?_
    · intro hx g h
      rw [spn_n (Nat.le_refl _)] at hx
      have le : iv (sI μ g) a 1 ≤ iv (sI μ g) a 3 := by rw [iv_sI, iv_sI, V1 h, h.2.2.1]; exact le_r _
      rw [hx] at h
      exact b_X9_advance_8 (j0 := 0) (hw9_r0 := hw) (h := fun _ => L46 g s h) (hi_j0 := fun c => absurd le c) (hb := fun c => absurd le c) (h_2 := fun c => absurd le c) (h_3 := fun c => absurd le c)
    · intro x hx ih hsp g h
      have nle : ¬ iv (sI μ g) a 1 ≤ iv (sI μ g) a 3 := by rw [iv_sI, iv_sI, V1 h, h.2.2.1]; exact ge_c hx (by omega)
      have ic : iv (sI μ g) (a + 1) x = nI (T x) := Vc h hx
      have bx := hb x hx
      have l1 : (iv (sI μ g) (a + 1) x = (32 : Int32)) ↔ T x = 32 := by rw [ic]; exact nI_eq (b := 32) (by omega) (by decide)
      refine b_X9_advance_8 (j0 := x) (hw9_r0 := hw) (h := fun c => absurd c nle) (hi_j0 := fun _ => h.2.2.1) (hb := fun _ => by omega) (h_2 := fun _ c => ?_) (h_3 := fun _ c => ?_)
      · rw [l1] at c
        rw [spn_x hx (by unfold pSp; rw [decide_eq_true_iff]; exact c)] at hsp
        rw [hsp] at h
        exact L46 g s h
      · rw [l1] at c
        rw [wi_sI, iv_sI, h.2.2.1, nI_1]
        exact ih (by rw [← hsp, spn_s hx (by unfold pSp; rw [decide_eq_true_iff]; exact c)]) _ (V3 h)
  refine Ct_of rfl (Nat.le_of_ble_eq_true rfl) (b_X9_advance_0 hw ?_)
  rw [wi_sI, iv_sI, h4]
  exact L8 s hs rfl _ ⟨fun z hz j => u2_x hz, fun j hj => u2_k (by omega), u2_s _ _ _ _, by rw [u2_k (by decide)]; exact h4⟩
end P55
