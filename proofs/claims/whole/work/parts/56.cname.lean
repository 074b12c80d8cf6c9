/-- how long a word is -/
def wl (w : Nat) : Nat := endN (w + 1) - endN w
def isWb (T : Nat → Nat) (n q w : Nat) : Bool := decide (tK T n q = 1 ∧ tB T n q - tA T n q = wl w ∧ ∀ k, k < wl w → T (tA T n q + k) = letN (endN w + k))
def nmG (P : Nat → Bool) : Nat → Nat
  | 0 => 13
  | k + 1 => if P (12 - k) = true then 12 - k else nmG P k
/-- which word it is, or 13 -/
def nmW (T : Nat → Nat) (n q : Nat) : Nat := nmG (isWb T n q) 13
theorem nmG_or (P : Nat → Bool) : ∀ k, k ≤ 13 → (nmG P k = 13 ∧ ∀ i, 13 - k ≤ i → i < 13 → ¬ P i = true) ∨ (13 - k ≤ nmG P k ∧ nmG P k < 13 ∧ P (nmG P k) = true ∧ ∀ i, 13 - k ≤ i → i < nmG P k → ¬ P i = true) := by
  intro k
  induction k with
  | zero => intro _; exact Or.inl ⟨rfl, fun i h1 h2 => by omega⟩
  | succ k ih =>
    intro hk
    show (((if P (12 - k) = true then 12 - k else nmG P k) = 13 ∧ _) ∨ (_ ≤ (if P (12 - k) = true then 12 - k else nmG P k) ∧ (if P (12 - k) = true then 12 - k else nmG P k) < 13 ∧ P (if P (12 - k) = true then 12 - k else nmG P k) = true ∧ ∀ i, _ → i < (if P (12 - k) = true then 12 - k else nmG P k) → _))
    by_cases q : P (12 - k) = true
    · rw [if_pos q]
      exact Or.inr ⟨by omega, by omega, q, fun i h1 h2 => by omega⟩
    · rw [if_neg q]
      have nx : ∀ i, 13 - (k + 1) ≤ i → ¬ 13 - k ≤ i → ¬ P i = true := fun i h1 h2 => by
        have e : i = 12 - k := by omega
        rw [e]; exact q
      rcases ih (by omega) with ⟨h1, h2⟩ | ⟨h1, h2, h3, h4⟩
      · exact Or.inl ⟨h1, fun i a b => by
          by_cases c : 13 - k ≤ i
          · exact h2 i c b
          · exact nx i a c⟩
      · exact Or.inr ⟨by omega, h2, h3, fun i a b => by
          by_cases c : 13 - k ≤ i
          · exact h4 i c b
          · exact nx i a c⟩
theorem wd : ∀ w, w < 13 → ∀ v, v < 13 → wl w = wl v → (∀ k, k < wl w → letN (endN w + k) = letN (endN v + k)) → w = v := by decide
theorem isWb_i {T : Nat → Nat} {n q w : Nat} : isWb T n q w = true ↔ tK T n q = 1 ∧ tB T n q - tA T n q = wl w ∧ ∀ k, k < wl w → T (tA T n q + k) = letN (endN w + k) := by
  unfold isWb
  rw [decide_eq_true_iff]
theorem isWb_u {T : Nat → Nat} {n q w v : Nat} (hw : w < 13) (hv : v < 13) (h1 : isWb T n q w = true) (h2 : isWb T n q v = true) : w = v := by
  rw [isWb_i] at h1 h2
  refine wd w hw v hv (by omega) (fun k hk => ?_)
  rw [← h1.2.2 k hk, ← h2.2.2 k (by omega)]
theorem nmW_le {T : Nat → Nat} {n q : Nat} : nmW T n q ≤ 13 := by
  rcases nmG_or (isWb T n q) 13 (Nat.le_refl _) with ⟨h1, _⟩ | ⟨_, h2, _⟩
  · unfold nmW; omega
  · unfold nmW; omega
theorem nmW_iff {T : Nat → Nat} {n q w : Nat} (hw : w < 13) : nmW T n q = w ↔ isWb T n q w = true := by
  unfold nmW
  rcases nmG_or (isWb T n q) 13 (Nat.le_refl _) with ⟨h1, h2⟩ | ⟨_, h2, h3, _⟩
  · exact ⟨fun z => by omega, fun z => absurd z (h2 w (by omega) hw)⟩
  · exact ⟨fun z => by rw [← z]; exact h3, fun z => isWb_u h2 hw h3 z⟩
theorem nmW_1 {T : Nat → Nat} {n q : Nat} (h : nmW T n q < 13) : tK T n q = 1 := (isWb_i.mp ((nmW_iff h).mp rfl)).1
/-- the class's words by the reference's -/
def sW (i : Nat) : Nat := [8, 4, 0, 10, 2, 9, 11, 12, 1, 3, 5, 6, 7].getD i 0
theorem str_ok : ∀ i, i < 13 → strN.getD i 0 = wl (sW i) ∧ sW i < 13 ∧ ∀ k, k < wl (sW i) → (strB.getD i []).getD k 0 = nI (letN (endN (sW i) + k)) := by decide
theorem let_le : ∀ i, i < 46 → letN i ≤ 122 := by decide
theorem wl_le : ∀ w, w < 13 → endN w + wl w ≤ 46 ∧ wl w ≤ 5 := by decide
def o3 (T : Nat → Nat) (n q c : Nat) : Nat := if tK T n q = 1 ∧ tB T n q - tA T n q = 1 ∧ c ≤ T (tA T n q) ∧ T (tA T n q) < c + 3 then T (tA T n q) - c else 3
def o3I (k : Nat) : Int32 := if k < 3 then nI k else -1
def num (T : Nat → Nat) (n q : Nat) : Nat := if tB T n q - tA T n q = 1 then T (tA T n q) - 48 else 10 * (T (tA T n q) - 48) + (T (tA T n q + 1) - 48)
theorem ck_1 {k : Nat} (h : k ≤ 5) : ck k = 1 ↔ k = 1 := by
  unfold ck
  repeat' split
  all_goals omega
theorem ck_2 {k : Nat} (h : k ≤ 5) : ck k = 2 ↔ k = 2 := by
  unfold ck
  repeat' split
  all_goals omega
theorem ck_3 {k : Nat} (h : k ≤ 5) : ck k = 3 ↔ k = 3 ∨ k = 4 := by
  unfold ck
  repeat' split
  all_goals omega
theorem ck_4 {k : Nat} (h : k ≤ 5) : ck k = 4 ↔ k = 5 := by
  unfold ck
  repeat' split
  all_goals omega
theorem ck_0 {k : Nat} (h : k ≤ 5) : ck k = 0 ↔ k = 0 := by
  unfold ck
  repeat' split
  all_goals omega
theorem ck_le {k : Nat} (h : k ≤ 5) : ck k ≤ 4 := by
  unfold ck
  repeat' split
  all_goals omega
/-- a number's digits -/
theorem num_d {T : Nat → Nat} {n q : Nat} (hq : q ≤ n) (h : tK T n q = 2) : (48 ≤ T (tA T n q) ∧ T (tA T n q) ≤ 57) ∧ (tB T n q = tA T n q + 1 ∨ (tB T n q = tA T n q + 2 ∧ 48 ≤ T (tA T n q + 1) ∧ T (tA T n q + 1) ≤ 57)) := by
  obtain ⟨_, h2, h3, h4⟩ := tK_2 h
  have b := tA_b (T := T) hq
  have s := spn_in (P := pDg T) (n := n) (tA T n q) b.2
  have s0 := s (tA T n q) (Nat.le_refl _) h2
  unfold pDg at s0
  rw [decide_eq_true_iff] at s0
  refine ⟨s0, ?_⟩
  rw [h4]
  by_cases c : tD T n q = tA T n q + 1
  · exact Or.inl c
  · have s1 := s (tA T n q + 1) (by omega) (by unfold tD at h2 h3 c; omega)
    unfold pDg at s1
    rw [decide_eq_true_iff] at s1
    exact Or.inr ⟨by omega, s1⟩
theorem num_lt {T : Nat → Nat} {n q : Nat} (hq : q ≤ n) (h : tK T n q = 2) : num T n q < 100 := by
  have := num_d hq h
  unfold num
  split <;> omega
section P56
variable {X : cX} {d : Nat} {μ : mM} {K : Option Value → mM → Prop} {f : Nat → Nat → Int32} {a q n : Nat} {T : Nat → Nat}
theorem TK.k1 {c m : Nat} (h : TK f a T n q) (hc : c ≤ 5) (hm : m < 2 ^ 31) : (f a 2 = nI m) ↔ ck (tK T n q) = m := by
  have := ck_le (tK_le (T := T) (n := n) (q := q))
  rw [h.1]; exact nI_eq (by omega) hm
theorem c_isName {i : Nat} (hw : WF9 μ a) (hT : TP f a T n) (hq : q ≤ n) (ht : TK f a T n q) (hi : i < 13) (hK : K (some (.int (nI (if nmW T n q = sW i then 1 else 0)))) (sI μ f)) : Ct X (Rm (d + 4)) mX9_isName [.ref a, .ref (X.2.2.2.2.1 i)] (sI μ f) K := by
  obtain ⟨hn, hb, h1, hc⟩ := hT
  obtain ⟨s1, s2, s3⟩ := str_ok i hi
  have aB := tA_b (T := T) hq
  have bB := tB_b (T := T) hq
  have tl := tK_le (T := T) (n := n) (q := q)
  have w2 := wl_le _ s2
  have k1 : (iv (sI μ f) a 2 = (1 : Int32)) ↔ tK T n q = 1 := (ht.k1 (c := 1) (m := 1) (by decide) (by decide)).trans (ck_1 tl)
  have ed : iv (sI μ f) a 4 - iv (sI μ f) a 3 = nI (tB T n q - tA T n q) := by rw [iv_sI, iv_sI, ht.2.1, ht.2.2]; exact pk_sub bB.1
  have NO : ¬ isWb T n q (sW i) = true → K (some (.int 0)) (sI μ f) := fun z => by
    rw [if_neg (fun c => z ((nmW_iff s2).mp c))] at hK; exact hK
  have YES : isWb T n q (sW i) = true → K (some (.int 1)) (sI μ f) := fun z => by
    rw [if_pos ((nmW_iff s2).mpr z)] at hK; exact hK
  refine Ct_of rfl (Nat.le_of_ble_eq_true rfl) (b_X9_isName_0 (hw9_r0 := hw) (hK := fun c => NO (fun z => c (k1.mpr (isWb_i.mp z).1))) (hw13 := hi) (h := fun c1 c2 => ?_) (hK_2 := fun c1 c2 => NO (fun z => c2 ?_)))
  · rw [k1] at c1
    rw [ed, s1, nI_eq (by omega) (by omega)] at c2
    have H : ∀ k, k ≤ wl (sW i) → (∀ j, j < k → T (tA T n q + j) = letN (endN (sW i) + j)) → G X (Rm (d + 4)) mX9_isName 28 [(0, .ref a), (1, .ref (X.2.2.2.2.1 i)), (2, .int (nI k))] [] (sI μ f) 0 0 K := by
      refine dn _ ?_ ?_
      · intro hall
        have le : nI (strN.getD i 0) ≤ nI (wl (sW i)) := by rw [s1]; exact le_r _
        exact b_X9_isName_28 (j0 := 0) (hw13 := hi) (hK := fun _ => YES (isWb_i.mpr ⟨c1, c2, hall⟩)) (hw9_r0 := hw) (hi_j0 := fun c => absurd le c) (hb := fun c => absurd le c) (hb_2 := fun c => absurd le c) (h := fun c => absurd le c) (hK_2 := fun c => absurd le c)
      · intro k hk ih hall
        have nle : ¬ nI (strN.getD i 0) ≤ nI k := by rw [s1]; exact ge_c hk (by omega)
        have ic : iv (sI μ f) (a + 1) (tA T n q + k) = nI (T (tA T n q + k)) := hc _ (by omega)
        have bx := hb (tA T n q + k) (by omega)
        have lb := let_le (endN (sW i) + k) (by omega)
        have ce : (iv (sI μ f) (a + 1) (tA T n q + k) = (strB.getD i []).getD k 0) ↔ T (tA T n q + k) = letN (endN (sW i) + k) := by rw [ic, s3 k hk]; exact nI_eq (by omega) (by omega)
        refine b_X9_isName_28 (j0 := tA T n q + k) (hw13 := hi) (hK := fun c => absurd c nle) (hw9_r0 := hw) (hi_j0 := fun _ => by rw [iv_sI, ht.2.1, nI_add]) (hb := fun _ => by omega) (hb_2 := fun _ => by omega) (h := fun _ c => ih (fun j hj => ?_)) (hK_2 := fun _ c => NO (fun z => c (ce.mpr ((isWb_i.mp z).2.2 k hk))))
        by_cases e : j = k
        · rw [e]; exact ce.mp c
        · exact hall j (by omega)
    exact H 0 (Nat.zero_le _) (fun j hj => absurd hj (Nat.not_lt_zero _))
  · rw [ed, s1, (isWb_i.mp z).2.1]
theorem c_o3 {c : Nat} (hw : WF9 μ a) (hT : TP f a T n) (hq : q ≤ n) (ht : TK f a T n q) (hc1 : c ≤ 120) (hK : K (some (.int (o3I (o3 T n q c)))) (sI μ f)) : Ct X (Rm d) mX9_oneOfThree [.ref a, .int (nI c)] (sI μ f) K := by
  obtain ⟨hn, hb, h1, hc⟩ := hT
  have aB := tA_b (T := T) hq
  have bB := tB_b (T := T) hq
  have tl := tK_le (T := T) (n := n) (q := q)
  have k1 : (iv (sI μ f) a 2 = (1 : Int32)) ↔ tK T n q = 1 := (ht.k1 (c := 1) (m := 1) (by decide) (by decide)).trans (ck_1 tl)
  have ed : iv (sI μ f) a 4 - iv (sI μ f) a 3 = nI (tB T n q - tA T n q) := by rw [iv_sI, iv_sI, ht.2.1, ht.2.2]; exact pk_sub bB.1
  have e1 : (iv (sI μ f) a 4 - iv (sI μ f) a 3 = (1 : Int32)) ↔ tB T n q - tA T n q = 1 := by rw [ed]; exact nI_eq (b := 1) (by omega) (by decide)
  have NO : ¬ (tK T n q = 1 ∧ tB T n q - tA T n q = 1 ∧ c ≤ T (tA T n q) ∧ T (tA T n q) < c + 3) → K (some (.int (-1))) (sI μ f) := fun z => by
    unfold o3 at hK
    rw [if_neg z] at hK; exact hK
  have ic : tK T n q = 1 → tA T n q < n ∧ iv (sI μ f) (a + 1) (tA T n q) = nI (T (tA T n q)) ∧ T (tA T n q) ≤ 127 := fun z => by
    have := (tK_n0 (T := T) hq (by omega)).2
    exact ⟨this, hc _ this, hb _ this⟩
  have lt : tK T n q = 1 → ((iv (sI μ f) (a + 1) (tA T n q) - nI c < 0) ↔ T (tA T n q) < c) := fun z => by
    obtain ⟨z1, z2, z3⟩ := ic z
    rw [z2]
    constructor
    · intro w
      by_cases g : T (tA T n q) < c
      · exact g
      · rw [pk_sub (by omega)] at w
        exact absurd w (nI_pos (by omega))
    · intro w; exact pk_sneg (by omega) w
  have g3 : tK T n q = 1 → c ≤ T (tA T n q) → iv (sI μ f) (a + 1) (tA T n q) - nI c = nI (T (tA T n q) - c) := fun z z4 => by
    rw [(ic z).2.1]; exact pk_sub z4
  refine Ct_of rfl (Nat.le_of_ble_eq_true rfl) (b_X9_oneOfThree_0 (j0 := tA T n q) (hw9_r0 := hw) (hK := fun z => NO (fun w => z (k1.mpr w.1))) (hi_j0 := fun _ _ => ht.2.1) (hb := fun z _ => by have := (ic (k1.mp z)).1; omega) (hK_2 := fun z1 z2 z3 => NO (fun w => by rw [lt w.1] at z3; omega)) (hK_3 := fun z1 z2 z3 z4 => NO (fun w => ?_)) (hK_4 := fun z1 z2 z3 z4 => ?_) (hK_5 := fun z1 z2 => NO (fun w => z2 (e1.mpr w.2.1))))
  · have b := (ic w.1).2.2
    rw [g3 w.1 w.2.2.1, show (3 : Int32) = nI 3 from rfl, nI_leI (by decide) (by omega)] at z4
    omega
  · rw [k1] at z1
    rw [e1] at z2
    rw [lt z1] at z3
    have b := (ic z1).2.2
    rw [g3 z1 (by omega), show (3 : Int32) = nI 3 from rfl, nI_leI (by decide) (by omega)] at z4
    rw [g3 z1 (by omega)]
    have e : o3 T n q c = T (tA T n q) - c := if_pos ⟨z1, z2, by omega, by omega⟩
    rw [e] at hK
    unfold o3I at hK
    rw [if_pos (by omega)] at hK
    exact hK
theorem c_number (hw : WF9 μ a) (hT : TP f a T n) (hq : q ≤ n) (ht : TK f a T n q) (hK : K (some (.int (if tK T n q = 2 then nI (num T n q) else -1))) (sI μ f)) : Ct X (Rm d) mX9_number [.ref a] (sI μ f) K := by
  obtain ⟨hn, hb, h1, hc⟩ := hT
  have aB := tA_b (T := T) hq
  have bB := tB_b (T := T) hq
  have tl := tK_le (T := T) (n := n) (q := q)
  have k2 : (iv (sI μ f) a 2 = (2 : Int32)) ↔ tK T n q = 2 := (ht.k1 (c := 1) (m := 2) (by decide) (by decide)).trans (ck_2 tl)
  have i4 : iv (sI μ f) a 4 = nI (tB T n q) := ht.2.2
  refine Ct_of rfl (Nat.le_of_ble_eq_true rfl) (b_X9_number_0 (hw9_r0 := hw) (h := fun z => ?_) (hK := fun z => ?_))
  · rw [k2] at z
    rw [if_pos z] at hK
    have nd := num_d hq z
    have ED : ∀ v : Nat, v = num T n q → G X (Rm d) mX9_number 17 [(0, .ref a), (1, .int (nI v)), (2, .int (nI (tB T n q)))] [] (sI μ f) 0 0 K := fun v hv => by
      have le : iv (sI μ f) a 4 ≤ nI (tB T n q) := by rw [i4]; exact le_r _
      rw [← hv] at hK
      exact b_X9_number_17 (j0 := 0) (hw9_r0 := hw) (hK := fun _ => hK) (hi_j0 := fun c => absurd le c) (hb := fun c => absurd le c) (h := fun c => absurd le c)
    have ST : ∀ p v v' : Nat, p < tB T n q → 48 ≤ T p → v' = v * 10 + (T p - 48) → G X (Rm d) mX9_number 17 [(0, .ref a), (1, .int (nI v')), (2, .int (nI (p + 1)))] [] (sI μ f) 0 0 K → G X (Rm d) mX9_number 17 [(0, .ref a), (1, .int (nI v)), (2, .int (nI p))] [] (sI μ f) 0 0 K := fun p v v' hp h48 hv h => by
      have nle : ¬ iv (sI μ f) a 4 ≤ nI p := by rw [i4]; exact ge_c hp (by omega)
      refine b_X9_number_17 (j0 := p) (hw9_r0 := hw) (hK := fun c => absurd c nle) (hi_j0 := fun _ => rfl) (hb := fun _ => by omega) (h := fun _ => ?_)
      have e : nI v * 10 + (iv (sI μ f) (a + 1) p - 48) = nI v' := by
        rw [iv_sI, hc p (by omega), show (48 : Int32) = nI 48 from rfl, pk_sub h48, show (10 : Int32) = nI 10 from rfl, pk_mul, nI_add, hv]
      rw [e, nI_1]
      exact h
    rw [iv_sI, ht.2.1]
    rcases nd.2 with e | ⟨e, e2⟩
    · refine ST (tA T n q) 0 (T (tA T n q) - 48) (by omega) nd.1.1 (by omega) ?_
      have := ED (T (tA T n q) - 48) (by unfold num; rw [if_pos (by omega)])
      rw [e] at this
      exact this
    · refine ST (tA T n q) 0 (T (tA T n q) - 48) (by omega) nd.1.1 (by omega) (ST (tA T n q + 1) _ (10 * (T (tA T n q) - 48) + (T (tA T n q + 1) - 48)) (by omega) e2.1 (by omega) ?_)
      have := ED (10 * (T (tA T n q) - 48) + (T (tA T n q + 1) - 48)) (by unfold num; rw [if_neg (by omega)])
      rw [e] at this
      exact this
  · rw [k2] at z
    rw [if_neg z] at hK
    exact hK
theorem c_isSign {k : Nat} (hw : WF9 μ a) (hT : TP f a T n) (hq : q ≤ n) (ht : TK f a T n q) (hk : k = 3 ∨ k = 4) (hK : K (some (.int (nI (if tK T n q = k then 1 else 0)))) (sI μ f)) : Ct X (Rm d) mX9_isSign [.ref a, .int (nI (if k = 3 then 59 else 58))] (sI μ f) K := by
  obtain ⟨hn, hb, h1, hc⟩ := hT
  have tl := tK_le (T := T) (n := n) (q := q)
  have k3 : (iv (sI μ f) a 2 = (3 : Int32)) ↔ (tK T n q = 3 ∨ tK T n q = 4) := (ht.k1 (c := 1) (m := 3) (by decide) (by decide)).trans (ck_3 tl)
  have ic : (tK T n q = 3 ∨ tK T n q = 4) → iv (sI μ f) (a + 1) (tA T n q) = nI (if tK T n q = 3 then 59 else 58) := fun z => by
    have := tK_34 z
    rw [iv_sI, hc _ this.2.2, this.2.1]
  have ce : (tK T n q = 3 ∨ tK T n q = 4) → ((iv (sI μ f) (a + 1) (tA T n q) = nI (if k = 3 then 59 else 58)) ↔ tK T n q = k) := fun z => by
    rw [ic z, nI_eq (by split <;> decide) (by split <;> decide)]
    rcases z with z | z <;> rcases hk with c | c <;> rw [z, c] <;> decide
  refine Ct_of rfl (Nat.le_of_ble_eq_true rfl) (b_X9_isSign_0 (j0 := tA T n q) (hw9_r0 := hw) (hK := fun z => ?_) (hi_j0 := fun _ => ht.2.1) (hb := fun z => ?_) (hK_2 := fun z1 z2 => ?_) (hK_3 := fun z1 z2 => ?_))
  · rw [k3] at z
    rw [if_neg (by omega)] at hK; exact hK
  · have := (tK_34 (k3.mp z)).2.2
    omega
  · have w := k3.mp z1
    rw [ce w] at z2
    rw [if_neg z2] at hK; exact hK
  · have w := k3.mp z1
    rw [ce w] at z2
    rw [if_pos z2] at hK; exact hK
end P56
