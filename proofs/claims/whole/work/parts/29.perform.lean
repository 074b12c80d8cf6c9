section P29
variable {X : cX} {d : Nat} {μ : mM} {K : Option Value → mM → Prop} {f : Nat → Nat → Int32} {a b y v w : Nat} {p : Nat → Nat}
theorem m_does {k : Nat} (hw : WF12 μ y) (hg : Pg0 f y p) (hp : okP p) (hk : k < 2 ^ 32) (hv : v < 2 ^ 32) (hw3 : w < 2 ^ 32) (hK : ∀ f', MFr f f' y → Pg0 f' y (deedP p k v w) → K (some (.int (deedA p k v w))) (sI μ f')) : Ct X (Rm (d + 2)) mX12_does [.ref y, .int (nI k), .int (nI v), .int (nI w)] (sI μ f) K := by
  refine Ct_of rfl (Nat.le_of_ble_eq_true rfl) ?_
  have BAD : okD k v w ≠ true → K (some (.int (-1))) (sI μ f) := fun h => by
    have := hK f (MFr.rf _ _)
    unfold deedP deedA at this
    rw [if_neg h, if_neg h] at this
    exact this hg
  have T55 : okD k v w = true → G X (Rm (d + 2)) mX12_does 55 [(0, .ref y), (1, .int (nI k)), (2, .int (nI v)), (3, .int (nI w))] [] (sI μ f) 0 0 K := fun h => by
    have h2 := okD_iff.mp h
    have nd : e_X12_nodes (sI μ f) y = nI (p 60) := hg 60 (by decide)
    have h6 := hp.1
    have T : (k = 5 → p 60 < 6) → G X (Rm (d + 2)) mX12_does 72 [(0, .ref y), (1, .int (nI k)), (2, .int (nI v)), (3, .int (nI w))] [] (sI μ f) 0 0 K := fun h5 => by
      refine m_doesN hw hg hp h2.1 h2.2.1 h2.2.2 h5 (fun f' h3 h4 => ?_)
      have := hK f' h3
      unfold deedP deedA at this
      rw [if_pos h, if_pos h, if_neg (by omega), if_neg (by omega)] at this
      exact this h4
    refine b_X12_does_55 (hw12_r0 := hw) (h := fun c => T (fun q => absurd (by rw [q]; rfl) c)) (h_2 := fun _ c => T (fun _ => ?_)) (hK := fun c1 c2 => ?_)
    · rw [nd] at c
      have : p 60 ≠ 6 := fun q => c (by rw [q]; rfl)
      omega
    · rw [nd] at c2
      have e1 : k = 5 := (nI_eqU (b := 5) hk (by decide)).mp c1
      have e2 : p 60 = 6 := (nI_eq (b := 6) (by omega) (by decide)).mp c2
      have := hK f (MFr.rf _ _)
      unfold deedP deedA at this
      rw [if_pos h, if_pos h, if_pos ⟨e1, e2⟩, if_pos ⟨e1, e2⟩] at this
      exact this hg
  have T20 : ∀ v0 : Int32, (v0 = 0 ↔ ¬ (k = 1 ∨ k = 2 ∨ k = 4)) → G X (Rm (d + 2)) mX12_does 20 [(0, .ref y), (1, .int (nI k)), (2, .int (nI v)), (3, .int (nI w))] [.int v0] (sI μ f) 0 0 K := fun v0 hv0 => by
    have q1 : e_X12_in (sI μ f) (nI k).toInt64 0 5 = 0 ↔ ¬ k ≤ 5 := e_inN (n := 5) hk (by decide) (by decide)
    have q2 := m_isV (μ := sI μ f) hv
    have q3 := m_isV (μ := sI μ f) hw3
    refine b_X12_does_20 (hK := fun c => BAD (fun q => ?_)) (hs := fun _ => e_in01 _ _ _ _) (hK_2 := fun _ c => BAD (fun q => ?_)) (h := fun c1 c2 c3 => T55 (okD_iff.mpr ⟨?_, ?_, ?_⟩)) (hs_2 := fun _ _ _ => e_in01 _ _ _ _) (h_2 := fun c1 c2 c3 c4 => T55 (okD_iff.mpr ⟨?_, ?_, ?_⟩)) (hK_3 := fun _ _ c3 c4 => BAD (fun q => ?_))
    · have := (okD_iff.mp q).1
      rw [q1] at c; omega
    · have := (okD_iff.mp q).2.1
      rw [q2] at c; omega
    · rw [q1] at c1; omega
    · rw [q2] at c2; omega
    · intro r; exact absurd r (hv0.mp c3)
    · rw [q1] at c1; omega
    · rw [q2] at c2; omega
    · intro _; rw [q3] at c4; omega
    · rw [hv0] at c3
      have := (okD_iff.mp q).2.2 (Decidable.not_not.mp c3)
      rw [q3] at c4; omega
  have j1 : (nI k = (1 : Int32)) ↔ k = 1 := nI_eqU (b := 1) hk (by decide)
  have j2 : (nI k = (2 : Int32)) ↔ k = 2 := nI_eqU (b := 2) hk (by decide)
  have j4 : (nI k = (4 : Int32)) ↔ k = 4 := nI_eqU (b := 4) hk (by decide)
  have on : (k = 1 ∨ k = 2 ∨ k = 4) → G X (Rm (d + 2)) mX12_does 15 [(0, .ref y), (1, .int (nI k)), (2, .int (nI v)), (3, .int (nI w))] [] (sI μ f) 0 0 K := fun h => b_X12_does_15 (T20 1 ⟨fun q => absurd q (by decide), fun q => absurd h q⟩)
  exact b_X12_does_0 (h := fun c => on (Or.inl (j1.mp c))) (h_2 := fun _ c => on (Or.inr (Or.inl (j2.mp c)))) (h_3 := fun c1 c2 c3 => T20 0 ⟨fun _ q => q.elim (fun q => c1 (j1.mpr q)) (fun q => q.elim (fun q => c2 (j2.mpr q)) (fun q => c3 (j4.mpr q))), fun _ => rfl⟩) (h_4 := fun _ _ c => on (Or.inr (Or.inr (j4.mp c))))
/-- outside a shape's tables and a row nothing has changed -/
def DFr (f f' : Nat → Nat → Int32) (a b : Nat) : Prop := ∀ z, (z < a ∨ a + 13 ≤ z) → z ≠ b + 1 → ∀ j, f' z j = f z j
theorem full5 (hs : Sh f a p) (hp : okP p) : e_X5_isFull (sI μ f) a = 0 ↔ p 60 < 6 := by
  have h6 := hp.1
  have e1 : (1 : Int32) ≠ 0 := by decide
  unfold e_X5_isFull
  rw [iv_sI, hs.1]
  have e2 : (nI (p 60) < (6 : Int32)) ↔ p 60 < 6 := nI_ltI (b := 6) (by omega) (by decide)
  by_cases q : p 60 < 6
  · rw [if_pos (e2.mpr q)]; simp [q]
  · rw [if_neg (fun r => q (e2.mp r))]; simp [q, e1]
theorem c_perform {k : Nat} (hwa : WF5 μ a) (hwb : WF1 μ b) (hab : a + 24 ≤ b ∨ b + 2 ≤ a) (hs : Sh f a p) (hp : okP p) (hk : k < 2 ^ 32) (hv : v < 2 ^ 32) (hw3 : w < 2 ^ 32) (hK : ∀ f', DFr f f' a b → Sh f' a (deedP p k v w) → K (some (.int (deedA p k v w))) (sI μ f')) : Ct X (Rm (d + 3)) mX1_perform [.ref b, .ref a, .int (nI k), .int (nI v), .int (nI w)] (sI μ f) K := by
  refine Ct_of rfl (Nat.le_of_ble_eq_true rfl) ?_
  have h6 := hp.1
  have BAD : okD k v w ≠ true → K (some (.int (-1))) (sI μ f) := fun h => by
    have := hK f (fun _ _ _ _ => rfl)
    unfold deedP deedA at this
    rw [if_neg h, if_neg h] at this
    exact this hs
  have T50 : okD k v w = true → (k = 5 → p 60 < 6) → G X (Rm (d + 3)) mX1_perform 50 [(0, .ref b), (1, .ref a), (2, .int (nI k)), (3, .int (nI v)), (4, .int (nI w))] [] (sI μ f) 0 0 K := fun h h5 => by
    have h2 := okD_iff.mp h
    have F : ∀ f', DFr f f' a b → Sh f' a (ddN p k v w) → G X (Rm (d + 3)) mX1_perform 193 [(5, .int (nI (dAn p k v w)))] [] (sI μ f') 0 0 K := fun f' q1 q2 => by
      refine b_X1_perform_193 ?_
      have := hK f' q1
      unfold deedP deedA at this
      rw [if_pos h, if_pos h, if_neg (by omega), if_neg (by omega)] at this
      exact this q2
    have eqk : ∀ {n : Nat}, n < 2 ^ 31 → nI k = nI n → k = n := fun hn h => (nI_eq (by omega) hn).mp h
    refine b_X1_perform_50 (c_answer hwa hs hp h2.1 h2.2.1 (fun q => h2.2.2 (Or.inr (Or.inl q))) ?_)
    refine b_X1_perform_58 (hw5_r1 := hwa) (hb := fun _ => h2.2.1) (hc_fill := fun c => ?_) (hb_2 := fun c => h2.2.2 (Or.inl (eqk (n := 1) (by decide) c))) (hb_3 := fun _ => h2.2.1) (h := fun c => ?_) (hw1_r0 := hwb) (hc_follow := fun c => ?_) (hc_cut := fun c => ?_) (hc_cut_2 := fun c => ?_) (hb_4 := fun _ => h2.2.1) (hc_fill_2 := fun c => ?_)
    · have e : k = 0 := eqk (n := 0) (by decide) c
      refine c_fill (w5_q2 hwa v h2.2.1) (by decide) (b_X1_perform_106 (F _ (fun z hz _ j => flI_x (by omega)) ?_))
      unfold ddN
      rw [if_pos e]
      exact Sh_row hs h2.2.1 (fun z hz _ _ j => flI_x hz) (fun i hi => flI_s hi)
    · have e : k = 1 := eqk (n := 1) (by decide) c
      have h3 := h2.2.2 (Or.inl e)
      rw [cpI_sI]
      refine F _ (fun z hz _ j => cp2_x (by omega)) ?_
      unfold ddN
      rw [if_neg (by omega), if_pos e]
      refine Sh_row hs h2.2.1 (fun z hz _ _ j => cp2_x hz) (fun i hi => ?_)
      rw [cp2_row hi]
      exact hs.2.2.1 w i h3 hi
    · have e : k = 2 := eqk (n := 2) (by decide) c
      refine c_follow hwa hwb hab hs hp h2.2.1 (h2.2.2 (Or.inr (Or.inl e))) (fun f' q1 q2 => b_X1_perform_140 (F f' (fun z hz hz2 j => q1 z hz2 (by omega) j) ?_))
      unfold ddN
      rw [if_neg (by omega), if_neg (by omega), if_pos e]
      exact q2
    · have e : k = 3 := eqk (n := 3) (by decide) c
      refine c_cut hwa hs hp h2.2.1 (fun f' q1 q2 => b_X1_perform_148 (F f' (fun z hz hz2 j => q1 z (by omega) j) ?_))
      unfold ddN
      rw [if_neg (by omega), if_neg (by omega), if_neg (by omega), if_pos e]
      exact q2
    · have e : k = 4 := eqk (n := 4) (by decide) c
      have h3 := h2.2.2 (Or.inr (Or.inr e))
      refine c_cut hwa hs hp h2.2.1 (fun f' q1 q2 => b_X1_perform_156 (c_link hwa q2 (okP_dd3 hp) h2.2.1 h3 (fun f'' q3 q4 => b_X1_perform_163 (F f'' (fun z hz hz2 j => (q3 z (by omega) j).trans (q1 z (by omega) j)) ?_))))
      unfold ddN
      rw [if_neg (by omega), if_neg (by omega), if_neg (by omega), if_neg (by omega), if_pos e]
      have e9 : lnk (dd3 p v) (dd3 p v) v w = dd4 p v w := by
        funext i
        unfold lnk dd4
        by_cases q : 24 ≤ i ∧ i < 60
        · rw [if_pos q, if_pos q]
          unfold dd3
          rw [if_pos q, if_neg (by omega), if_neg (by omega)]
        · rw [if_neg q, if_neg q]
          unfold dd3
          rw [if_neg q]
      rw [e9] at q4
      exact q4
    · rw [nI_toInt (by omega)] at c
      have e : k = 5 := by omega
      have hn := h5 e
      have hs2 := hs.1
      refine c_fill (w5_q2 hwa v h2.2.1) (by decide) (b_X1_perform_176 (j0 := p 60) (hw5_r1 := hwa) (hb := h2.2.1) (hi_j0 := ?_) (hb_2 := hn) (hc_append := ?_))
      · rw [iv_sI, flI_x (by omega)]; exact hs2
      · rw [wi_sI]
        refine c_append (n := p 60) (m := 0) hwa ?_ hn (by decide) (F _ (fun z hz _ j => ?_) ?_)
        · rw [u2_x (by omega), flI_x (by omega)]; exact hs2
        · rw [u2_x (by omega), u2_x (by omega), u2_x (by omega), flI_x (by omega)]
        · unfold ddN
          rw [if_neg (by omega), if_neg (by omega), if_neg (by omega), if_neg (by omega), if_neg (by omega)]
          have e60 : setR p v (fun i => if i = p 60 then 2 else 0) 60 = p 60 := setR_60 h2.2.1
          have s1 : Sh (u2 (flI f (a + 3 + v) 6 0) (a + 3 + v) (p 60) 2) a (setR p v (fun i => if i = p 60 then 2 else 0)) := by
            refine Sh_row hs h2.2.1 (fun z hz _ _ j => by rw [u2_x hz, flI_x hz]) (fun i hi => ?_)
            by_cases q : i = p 60
            · rw [if_pos q, q, u2_s]; rfl
            · rw [if_neg q, u2_k q, flI_s hi]; rfl
          refine ⟨?_, fun i hi => ?_, fun u i hu hi => ?_, fun i j hi hj => ?_⟩
          · rw [u2_s, app_60, e60]
          · rw [u2_x (by omega)]
            by_cases q : i = p 60
            · have q1 := app_n (p := setR p v (fun i => if i = p 60 then 2 else 0)) (m := 0) (by rw [e60]; exact hn)
              rw [e60] at q1
              rw [q, u2_s, q1]
            · rw [u2_k q, app_ne (by omega) (by rw [e60]; exact q)]
              exact s1.2.1 i hi
          · rw [u2_x (by omega), u2_x (by omega), app_ne (by omega) (by rw [e60]; omega)]
            exact s1.2.2.1 u i hu hi
          · rw [u2_x (by omega), u2_x (by omega), app_ne (by omega) (by rw [e60]; omega)]
            exact s1.2.2.2 i j hi hj
  have T35 : okD k v w = true → G X (Rm (d + 3)) mX1_perform 35 [(0, .ref b), (1, .ref a), (2, .int (nI k)), (3, .int (nI v)), (4, .int (nI w))] [] (sI μ f) 0 0 K := fun h => by
    have fl := full5 (μ := μ) hs hp
    refine b_X1_perform_35 (hw5_r1 := hwa) (h := fun c => T50 h (fun q => absurd (by rw [q]; rfl) c)) (h_2 := fun _ c => T50 h (fun _ => ?_)) (hK := fun c1 c2 => ?_)
    · exact fl.mp c
    · have e1 : k = 5 := (nI_eqU (b := 5) hk (by decide)).mp c1
      have e2 : p 60 = 6 := by
        rw [fl] at c2; omega
      have := hK f (fun _ _ _ _ => rfl)
      unfold deedP deedA at this
      rw [if_pos h, if_pos h, if_pos ⟨e1, e2⟩, if_pos ⟨e1, e2⟩] at this
      exact this hs
  have q2 := c_isV (μ := sI μ f) hv
  have q3 := c_isV (μ := sI μ f) hw3
  have j1 : (nI k = (1 : Int32)) ↔ k = 1 := nI_eqU (b := 1) hk (by decide)
  have j2 : (nI k = (2 : Int32)) ↔ k = 2 := nI_eqU (b := 2) hk (by decide)
  have j4 : (nI k = (4 : Int32)) ↔ k = 4 := nI_eqU (b := 4) hk (by decide)
  have lk : e_X1_looksAtOther (sI μ f) (nI k) = 0 ↔ ¬ (k = 1 ∨ k = 2 ∨ k = 4) := by
    have e1 : (1 : Int32) ≠ 0 := by decide
    unfold e_X1_looksAtOther
    by_cases r1 : k = 1
    · rw [if_pos (j1.mpr r1)]; simp [e1, r1]
    · rw [if_neg (fun q => r1 (j1.mp q))]
      by_cases r2 : k = 2
      · rw [if_pos (j2.mpr r2)]; simp [e1, r2]
      · rw [if_neg (fun q => r2 (j2.mp q))]
        by_cases r4 : k = 4
        · rw [if_pos (j4.mpr r4)]; simp [e1, r4]
        · rw [if_neg (fun q => r4 (j4.mp q))]; simp [r1, r2, r4]
  have k6 : ¬ nI k < 0 → ¬ (5 : Int32) < nI k → k < 6 := fun c1 c2 => by
    rw [lt0 hk] at c1
    have : ¬ 5 < k := fun q => c2 ((nI_ltI (a := 5) (by decide) (by omega)).mpr q)
    omega
  refine b_X1_perform_0 (hK := fun c => BAD (fun q => ?_)) (hK_2 := fun c1 c => BAD (fun q => ?_)) (h := fun c1 c2 c3 c4 => T35 (okD_iff.mpr ⟨k6 c1 c2, ?_, ?_⟩)) (h_2 := fun c1 c2 c3 c4 c5 => T35 (okD_iff.mpr ⟨k6 c1 c2, ?_, ?_⟩)) (hK_3 := fun c1 c2 c3 c4 c5 => BAD (fun q => ?_)) (hK_4 := fun c1 c2 c3 => BAD (fun q => ?_))
  · have := (okD_iff.mp q).1
    rw [lt0 hk] at c; omega
  · have := (okD_iff.mp q).1
    have : 5 < k := (nI_ltI (a := 5) (by decide) (by omega)).mp c
    omega
  · rw [q2] at c3; omega
  · intro r; exact absurd r (lk.mp c4)
  · rw [q2] at c3; omega
  · intro _; rw [q3] at c5; omega
  · rw [lk] at c4
    have := (okD_iff.mp q).2.2 (Decidable.not_not.mp c4)
    rw [q3] at c5; omega
  · have := (okD_iff.mp q).2.1
    rw [q2] at c3; omega
end P29
