/-- one state comes behind another -/
def Mo (s s' : sT) : Prop := s.2.1 ≤ s'.2.1 ∧ (s.2.2 = true → s'.2.2 = true)
theorem Mo.rf (s : sT) : Mo s s := ⟨Nat.le_refl _, id⟩
theorem Mo.tr {s t u : sT} (h1 : Mo s t) (h2 : Mo t u) : Mo s u := ⟨Nat.le_trans h1.1 h2.1, fun h => h2.2 (h1.2 h)⟩
theorem Mo_fo {F : Nat → sT → sT} {s : sT} (h : ∀ j s, Mo s (F j s)) : ∀ n, Mo s (fo F n s)
  | 0 => Mo.rf s
  | n + 1 => (Mo_fo h n).tr (h n _)
theorem Mo_sc1 (lo i j : Nat) (s : sT) : Mo s (sc1 lo i j s) := by
  unfold sc1
  split
  · exact ⟨Nat.le_refl _, fun _ => rfl⟩
  · split
    · exact ⟨Nat.le_succ _, id⟩
    · exact Mo.rf s
theorem Mo_scl (n lo i : Nat) (s : sT) : Mo s (scl n lo i s) := Mo_fo (fun j s => Mo_sc1 lo i j s) n
theorem Mo_smk (i : Nat) (s : sT) : Mo s (smk i s) := by
  unfold smk
  split
  · exact ⟨Nat.le_succ _, id⟩
  · exact Mo.rf s
theorem Mo_sa1 (n v i : Nat) (s : sT) : Mo s (sa1 n v i s) := by
  unfold sa1
  split
  · exact (Mo_smk i s).tr (Mo_scl _ _ _ _)
  · exact Mo.rf s
theorem Mo_sar (n v m : Nat) (s : sT) : Mo s (fo (sa1 n v) m s) := Mo_fo (fun j s => Mo_sa1 n v j s) m
theorem Mo_saa (n m : Nat) (s : sT) : Mo s (fo (sar n) m s) := Mo_fo (fun j s => Mo_sar n j n s) m
theorem Mo_sn1 (n i j : Nat) (s : sT) : Mo s (sn1 n i j s) := by
  unfold sn1
  split
  · exact Mo_scl _ _ _ _
  · exact Mo.rf s
theorem Mo_snr (n i m : Nat) (s : sT) : Mo s (fo (sn1 n i) m s) := Mo_fo (fun j s => Mo_sn1 n i j s) m
theorem Mo_snn (n m : Nat) (s : sT) : Mo s (fo (snr n) m s) := Mo_fo (fun j s => Mo_snr n j n s) m
theorem Mo_rnd (n : Nat) (s : sT) : Mo s (rnd n s) := (Mo_saa n 3 s).tr (Mo_snn n n _)
/-- the reference stands at s: behind a clash its page may be any -/
def MS (f g : Nat → Nat → Int32) (y : Nat) (p : Nat → Nat) (s : sT) : Prop := MF2 f g y ∧ Pg g y 305 p ∧ g y 22 = nI (b2n s.2.2) ∧ ∃ q, Pg0 g y q ∧ okP q ∧ q 60 = p 60 ∧ (s.2.2 = false → q = s.1)
/-- whether any was changed since s0 -/
def TT (t : Nat) (s0 s : sT) : Prop := t ≤ 1 ∧ (s.2.2 = false → (t = 0 ↔ s.2.1 = s0.2.1))
theorem b2n_t {b : Bool} (h : ¬ nI (b2n b) = 0) : b = true := by
  cases b
  · exact absurd rfl h
  · rfl
theorem b2n_f {b : Bool} (h : nI (b2n b) = 0) : b = false := by
  cases b
  · rfl
  · exact absurd h (by decide)
section P37
variable {X : cX} {d : Nat} {μ : mM} {K : Option Value → mM → Prop} {f : Nat → Nat → Int32} {a b y v w : Nat} {p : Nat → Nat}
theorem MS.any {g : Nat → Nat → Int32} {s s' : sT} (h : MS f g y p s) (h1 : s.2.2 = true) (h2 : s'.2.2 = true) : MS f g y p s' := by
  obtain ⟨q1, q2, q3, q, q4, q5, q6, _⟩ := h
  exact ⟨q1, q2, by rw [q3, h1, h2], q, q4, q5, q6, fun z => by rw [h2] at z; exact absurd z (by decide)⟩
theorem TT.any {t : Nat} {s0 s : sT} (ht : t ≤ 1) (h : s.2.2 = true) : TT t s0 s := ⟨ht, fun z => by rw [h] at z; exact absurd z (by decide)⟩
/-- a place that is 1 becomes 0 -/
theorem MS.zero {g : Nat → Nat → Int32} {s : sT} {k : Nat} (h : MS f g y p s) (hk : k < 60) (h1 : s.2.2 = false) : MS f (u2 g (y + 1) k 0) y p (upd1 s.1 k 0, s.2.1 + 1, s.2.2) := by
  obtain ⟨q1, q2, q3, q, q4, q5, q6, q7⟩ := h
  have e := q7 h1
  refine ⟨q1.up (by omega), fun r hr => by rw [u2_k (by omega)]; exact q2 r hr, by rw [u2_x (by omega)]; exact q3, upd1 q k 0, q4.u1, okP_z q5 hk, by rw [upd1_n (by omega)]; exact q6, fun _ => by rw [e]⟩
theorem MS.zeroC {g : Nat → Nat → Int32} {s s' : sT} {k : Nat} (h : MS f g y p s) (hk : k < 60) (h1 : s'.2.2 = true) : MS f (u2 (u2 g y 22 1) (y + 1) k 0) y p s' := by
  obtain ⟨q1, q2, q3, q, q4, q5, q6, q7⟩ := h
  have m1 : MF2 f (u2 g y 22 1) y := ⟨fun z z0 a b c j => by rw [u2_x z0]; exact q1.1 z z0 a b c j, fun k h1 h2 => by rw [u2_x (by omega)]; exact q1.2.1 k h1 h2, fun k hk => by rw [u2_k hk]; exact q1.2.2 k hk⟩
  have p1 : Pg0 (u2 g y 22 1) y q := q4.us (by omega)
  exact ⟨m1.up (by omega), fun r hr => by rw [u2_k (by omega), u2_x (by omega)]; exact q2 r hr, by rw [u2_x (by omega), u2_s, h1]; rfl, upd1 q k 0, p1.u1, okP_z q5 hk, by rw [upd1_n (by omega)]; exact q6, fun z => by rw [h1] at z; exact absurd z (by decide)⟩
theorem MS.same0 {g : Nat → Nat → Int32} {s : sT} (h : MS f g y p s) (h1 : s.2.2 = false) : MS f (u2 g y 22 0) y p s := by
  obtain ⟨q1, q2, q3, q, q4, q5, q6, q7⟩ := h
  exact ⟨⟨fun z z0 a b c j => by rw [u2_x z0]; exact q1.1 z z0 a b c j, fun k h1 h2 => by rw [u2_x (by omega)]; exact q1.2.1 k h1 h2, fun k hk => by rw [u2_k hk]; exact q1.2.2 k hk⟩, fun r hr => by rw [u2_x (by omega)]; exact q2 r hr, by rw [u2_s, h1]; rfl, q, q4.us (by omega), q5, q6, q7⟩
theorem m_isAlone {s : sT} {lo i : Nat} (hw : WF12 μ y) (h6 : p 60 ≤ 6) (hlo : 6 ≤ lo ∧ lo + 6 ≤ 60) (hi : i < 6) (hs : MS f f y p s) (hK : ∀ f' t, MS f f' y p (scl (p 60) lo i s) → TT t s (scl (p 60) lo i s) → K (some (.int (nI t))) (sI μ f')) : Ct X (Rm (d + 1)) mX12_isAlone [.ref y, .int (nI lo), .int (nI i)] (sI μ f) K := by
  refine Ct_of rfl (Nat.le_of_ble_eq_true rfl) (b_X12_isAlone_0 ?_)
  have H : ∀ j, j ≤ p 60 → ∀ g t, MS f g y p (fo (sc1 lo i) j s) → TT t s (fo (sc1 lo i) j s) → G X (Rm (d + 1)) mX12_isAlone 5 [(0, .ref y), (1, .int (nI lo)), (2, .int (nI i)), (3, .int (nI t)), (4, .int (nI j))] [] (sI μ g) 0 0 K := by
    refine dn (p 60) ?_ ?_
    · intro g t q1 q2
      have nd : e_X12_nodes (sI μ g) y = nI (p 60) := by
        obtain ⟨_, _, _, q, z1, _, z2, _⟩ := q1
        have := z1 60 (by decide)
        rw [z2] at this
        exact this
      refine b_X12_isAlone_5 (hw12_r0 := hw) (hK := fun _ => hK g t q1 q2) (hz := fun _ => b01 q2.1) (h := ?_) (hb := ?_) (h_2 := ?_) (h_3 := ?_) (hb_2 := ?_) (h_4 := ?_) (h_5 := ?_) <;> (intro c; rw [nd] at c; exact absurd (le_r _) c)
    · intro j hj ih g t q1 q2
      have st : fo (sc1 lo i) (j + 1) s = sc1 lo i j (fo (sc1 lo i) j s) := rfl
      have mo := Mo_fo (s := s) (fun j s => Mo_sc1 lo i j s) j
      have mo1 := Mo_sc1 lo i j (fo (sc1 lo i) j s)
      obtain ⟨r1, r2, r3, q, r4, r5, r6, r7⟩ := q1
      have q1 : MS f g y p (fo (sc1 lo i) j s) := ⟨r1, r2, r3, q, r4, r5, r6, r7⟩
      have nd : e_X12_nodes (sI μ g) y = nI (p 60) := by
        have := r4 60 (by decide)
        rw [r6] at this
        exact this
      have e1 : iv (sI μ g) (y + 1) (lo + j) = nI (q (lo + j)) := r4 _ (by omega)
      have l1 : q (lo + j) ≤ 2 := okP_all r5 (by omega) (by omega)
      have ei : (nI j = nI i) ↔ j = i := nI_eq (by omega) (by omega)
      have fl : iv (sI μ g) y 22 = nI (b2n (fo (sc1 lo i) j s).2.2) := r3
      -- nothing is written
      have Z : (∀ _ : (fo (sc1 lo i) j s).2.2 = false, j = i ∨ q (lo + j) = 0) → G X (Rm (d + 1)) mX12_isAlone 73 [(0, .ref y), (1, .int (nI lo)), (2, .int (nI i)), (3, .int (nI t)), (4, .int (nI j))] [] (sI μ g) 0 0 K := fun z => by
        refine b_X12_isAlone_73 (ih g t ?_ ?_)
        · cases hb : (fo (sc1 lo i) j s).2.2 with
          | true => exact q1.any hb (mo1.2 hb)
          | false =>
            have e9 := r7 hb
            rw [st, sc1_n (fun w => by have := z hb; rw [e9] at this; omega) (fun w => by have := z hb; rw [e9] at this; omega)]
            exact q1
        · cases hb : (fo (sc1 lo i) j s).2.2 with
          | true => exact TT.any q2.1 (mo1.2 hb)
          | false =>
            have e9 := r7 hb
            rw [st, sc1_n (fun w => by have := z hb; rw [e9] at this; omega) (fun w => by have := z hb; rw [e9] at this; omega)]
            exact q2
      -- a clash there is, or was
      have C : (fo (sc1 lo i) (j + 1) s).2.2 = true → G X (Rm (d + 1)) mX12_isAlone 53 [(0, .ref y), (1, .int (nI lo)), (2, .int (nI i)), (4, .int (nI j))] [.ref y] (sI μ g) 0 0 K := fun z => by
        refine b_X12_isAlone_53 (b_X12_isAlone_58 (hw12_q0 := hw) (hz := Or.inr rfl) (hw12_r0 := hw) (hb := by omega) (h := b_X12_isAlone_73 ?_))
        rw [wi_sI, wi_sI]
        exact ih _ 1 (q1.zeroC (by omega) z) (TT.any (by decide) z)
      refine b_X12_isAlone_5 (hw12_r0 := hw) (hK := fun c => absurd c (by rw [nd]; exact ge_c hj (by omega))) (hz := fun _ => b01 q2.1) (h := fun _ c => Z (fun _ => Or.inl (ei.mp c))) (hb := fun _ _ => by omega) (h_2 := fun _ _ c => Z (fun _ => Or.inr ?_)) (h_3 := fun _ c1 c2 c3 => C ?_) (hb_2 := fun _ _ _ _ => by omega) (h_4 := fun _ c1 c2 c3 c4 => ?_) (h_5 := fun _ c1 c2 c3 c4 => C ?_)
      · rw [e1, nI_z (by omega)] at c; exact c
      · rw [fl] at c3
        exact mo1.2 (b2n_t c3)
      · rw [fl] at c3
        have hb := b2n_f c3
        have e9 := r7 hb
        rw [e1, nI_z (by omega)] at c2
        have c5 : q (lo + j) ≠ 2 := fun z => c4 (by rw [e1, z]; rfl)
        rw [ei] at c1
        refine b_X12_isAlone_58 (hw12_q0 := hw) (hz := Or.inl rfl) (hw12_r0 := hw) (hb := by omega) (h := b_X12_isAlone_73 ?_)
        rw [wi_sI, wi_sI]
        have e8 : fo (sc1 lo i) (j + 1) s = (upd1 (fo (sc1 lo i) j s).1 (lo + j) 0, (fo (sc1 lo i) j s).2.1 + 1, (fo (sc1 lo i) j s).2.2) := by
          rw [st, sc1_o (fun z => by rw [← e9] at z; omega) ⟨c1, by rw [← e9]; omega⟩]
        refine ih _ 1 ?_ ⟨by decide, fun _ => ?_⟩
        · rw [e8]
          exact (q1.same0 hb).zero (by omega) hb
        · rw [e8]
          show 1 = 0 ↔ (fo (sc1 lo i) j s).2.1 + 1 = s.2.1
          have := mo.1
          omega
      · rw [fl] at c3
        have hb := b2n_f c3
        have e9 := r7 hb
        have c5 : q (lo + j) = 2 := by rw [e1] at c4; exact (nI_eq (b := 2) (by omega) (by decide)).mp c4
        rw [ei] at c1
        rw [st, sc1_c ⟨c1, by rw [← e9]; exact c5⟩]
  exact H 0 (Nat.zero_le _) f 0 hs ⟨by decide, fun _ => ⟨fun _ => rfl, fun _ => rfl⟩⟩
theorem MS.base {g h : Nat → Nat → Int32} {s : sT} (h1 : MS f g y p s) (h2 : MS g h y p s) : MS f h y p s := ⟨h1.1.tr h2.1, h2.2⟩
theorem MS.self {g : Nat → Nat → Int32} {s : sT} (h : MS f g y p s) : MS g g y p s := ⟨MF2.rf _ _, h.2⟩
theorem MS.to {g h : Nat → Nat → Int32} {s s' : sT} (h1 : MS f g y p s) (h2 : MS g h y p s') : MS f h y p s' := ⟨h1.1.tr h2.1, h2.2⟩
theorem TT_or {s0 s1 s2 : sT} {t u : Nat} (h1 : TT t s0 s1) (h2 : TT u s1 s2) (hm1 : Mo s0 s1) (hm : Mo s1 s2) : TT (max t u) s0 s2 := by
  have := h1.1
  have := h2.1
  refine ⟨by omega, fun z => ?_⟩
  have z1 : s1.2.2 = false := by
    cases hb : s1.2.2 with
    | false => rfl
    | true => rw [hm.2 hb] at z; exact absurd z (by decide)
  have e1 := h1.2 z1
  have e2 := h2.2 z
  have m1 := hm1.1
  have m2 := hm.1
  constructor
  · intro w
    have := e1.mp (by omega)
    have := e2.mp (by omega)
    omega
  · intro w
    have := e1.mpr (by omega)
    have := e2.mpr (by omega)
    omega
theorem m_isSharper {s : sT} (hw : WF12 μ y) (h6 : p 60 ≤ 6) (hs : MS f f y p s) (hK : ∀ f' t, MS f f' y p (rnd (p 60) s) → TT t s (rnd (p 60) s) → K (some (.int (nI t))) (sI μ f')) : Ct X (Rm (d + 2)) mX12_isSharper [.ref y] (sI μ f) K := by
  refine Ct_of rfl (Nat.le_of_ble_eq_true rfl) (b_X12_isSharper_0 ?_)
  have ndq : ∀ g s, MS f g y p s → e_X12_nodes (sI μ g) y = nI (p 60) := fun g s h => by
    obtain ⟨_, _, _, q, z1, _, z2, _⟩ := h
    have := z1 60 (by decide)
    rw [z2] at this
    exact this
  have H2 : ∀ v, v ≤ p 60 → ∀ g t, MS f g y p (fo (snr (p 60)) v (saa (p 60) s)) → TT t s (fo (snr (p 60)) v (saa (p 60) s)) → G X (Rm (d + 2)) mX12_isSharper 95 [(0, .ref y), (1, .int (nI t)), (2, .int (nI v))] [] (sI μ g) 0 0 K := by
    refine dn (p 60) ?_ ?_
    · intro g t q1 q2
      have nd := ndq g _ q1
      refine b_X12_isSharper_95 (hw12_r0 := hw) (hK := fun _ => hK g t q1 q2) (hz := fun _ => b01 q2.1) (h := ?_)
      intro c; rw [nd] at c; exact absurd (le_r _) c
    · intro v hv ih g t q1 q2
      have nd := ndq g _ q1
      refine b_X12_isSharper_95 (hw12_r0 := hw) (hK := fun c => absurd c (by rw [nd]; exact ge_c hv (by omega))) (hz := fun _ => b01 q2.1) (h := fun _ => ?_)
      have L : ∀ i, i ≤ p 60 → ∀ g t, MS f g y p (fo (sn1 (p 60) v) i (fo (snr (p 60)) v (saa (p 60) s))) → TT t s (fo (sn1 (p 60) v) i (fo (snr (p 60)) v (saa (p 60) s))) → G X (Rm (d + 2)) mX12_isSharper 105 [(0, .ref y), (1, .int (nI t)), (2, .int (nI v)), (3, .int (nI i))] [] (sI μ g) 0 0 K := by
        refine dn (p 60) ?_ ?_
        · intro g t q1 q2
          have nd := ndq g _ q1
          refine b_X12_isSharper_105 (hw12_r0 := hw) (h := fun _ => ih g t q1 q2) (hs := ?_) (h_2 := ?_) (hb := ?_) (h_3 := ?_) (hc_isAlone := ?_) <;> (intro c; rw [nd] at c; exact absurd (le_r _) c)
        · intro i hi ih2 g t q1 q2
          have nd := ndq g _ q1
          have st : fo (sn1 (p 60) v) (i + 1) (fo (snr (p 60)) v (saa (p 60) s)) = sn1 (p 60) v i (fo (sn1 (p 60) v) i (fo (snr (p 60)) v (saa (p 60) s))) := rfl
          have mo0 : Mo s (fo (sn1 (p 60) v) i (fo (snr (p 60)) v (saa (p 60) s))) := ((Mo_saa (p 60) 3 s).tr (Mo_snn (p 60) v _)).tr (Mo_snr _ _ _ _)
          generalize hS : fo (sn1 (p 60) v) i (fo (snr (p 60)) v (saa (p 60) s)) = S at q1 q2 st mo0
          have mo1 := Mo_sn1 (p 60) v i S
          rw [st] at ih2
          obtain ⟨r1, r2, r3, q, r4, r5, r6, r7⟩ := q1
          have q1 : MS f g y p S := ⟨r1, r2, r3, q, r4, r5, r6, r7⟩
          have e1 : e_X12_nextOf (sI μ g) y v i = nI (q (24 + 6 * v + i)) := r4 _ (by omega)
          have l1 : q (24 + 6 * v + i) ≤ 2 := okP_all r5 (by omega) (by omega)
          have e2 : iv (sI μ g) (y + 1) i = nI (q i) := r4 _ (by omega)
          have l2 := r5.2.1 i (by omega)
          have v2 : (e_X12_nextOf (sI μ g) y v i = (2 : Int32)) ↔ q (24 + 6 * v + i) = 2 := by rw [e1]; exact nI_eq (b := 2) (by omega) (by decide)
          have v0 : (iv (sI μ g) (y + 1) i = 0) ↔ q i = 0 := by rw [e2]; exact nI_z (by omega)
          have Z : (S.2.2 = false → ¬ (q (24 + 6 * v + i) = 2 ∧ q i = 0)) → G X (Rm (d + 2)) mX12_isSharper 157 [(0, .ref y), (1, .int (nI t)), (2, .int (nI v)), (3, .int (nI i))] [] (sI μ g) 0 0 K := fun z => by
            refine b_X12_isSharper_157 (ih2 g t ?_ ?_)
            · cases hb : S.2.2 with
              | true => exact q1.any hb (mo1.2 hb)
              | false => rw [sn1_n (by rw [← r7 hb]; exact z hb)]; exact q1
            · cases hb : S.2.2 with
              | true => exact TT.any q2.1 (mo1.2 hb)
              | false => rw [sn1_n (by rw [← r7 hb]; exact z hb)]; exact q2
          refine b_X12_isSharper_105 (hw12_r0 := hw) (h := fun c => absurd c (by rw [nd]; exact ge_c hi (by omega))) (hs := fun _ => by omega) (h_2 := fun _ c => Z (fun _ z => c (v2.mpr z.1))) (hb := fun _ _ => by omega) (h_3 := fun _ _ c => Z (fun _ z => c (v0.mpr z.2))) (hc_isAlone := fun _ c1 c2 => ?_)
          rw [v2] at c1
          rw [v0] at c2
          rw [show (24 : Int32) + (6 : Int32) * nI v = nI (24 + 6 * v) by rw [show (24 : Int32) = nI 24 from rfl, show (6 : Int32) = nI 6 from rfl, pk_mul, nI_add]]
          refine m_isAlone (s := S) hw h6 (by omega) (by omega) q1.self (fun f' u w1 w2 => ?_)
          have fin : ∀ x : Nat, x = max t u → G X (Rm (d + 2)) mX12_isSharper 156 [(0, .ref y), (2, .int (nI v)), (3, .int (nI i))] [.int (nI x)] (sI μ f') 0 0 K := fun x hx => by
            subst hx
            refine b_X12_isSharper_156 (b_X12_isSharper_157 (ih2 f' _ ?_ ?_))
            · cases hb : S.2.2 with
              | true => exact (q1.to w1).any ((Mo_scl _ _ _ S).2 hb) (mo1.2 hb)
              | false => rw [sn1_y (by rw [← r7 hb]; exact ⟨c1, c2⟩)]; exact q1.to w1
            · cases hb : S.2.2 with
              | true => exact TT.any (by have := q2.1; have := w2.1; omega) (mo1.2 hb)
              | false =>
                rw [sn1_y (by rw [← r7 hb]; exact ⟨c1, c2⟩)]
                exact TT_or q2 w2 mo0 (Mo_scl _ _ _ S)
          have t1 := q2.1
          have u1 := w2.1
          refine b_X12_isSharper_144 (h := fun c => b_X12_isSharper_151 (fin 1 ?_)) (h_2 := fun c1 c2 => fin 0 ?_) (h_3 := fun c1 c2 => b_X12_isSharper_151 (fin 1 ?_))
          · rw [nI_z (by omega)] at c; omega
          · rw [nI_z (by omega)] at c1 c2; omega
          · rw [nI_z (by omega)] at c1 c2; omega
      exact L 0 (Nat.zero_le _) g t q1 q2
  have H1 : ∀ v, v ≤ 3 → ∀ g t, MS f g y p (fo (sar (p 60)) v s) → TT t s (fo (sar (p 60)) v s) → G X (Rm (d + 2)) mX12_isSharper 4 [(0, .ref y), (1, .int (nI t)), (2, .int (nI v))] [] (sI μ g) 0 0 K := by
    refine dn 3 ?_ ?_
    · intro g t q1 q2
      refine b_X12_isSharper_4 (h := fun _ => H2 0 (Nat.zero_le _) g t q1 q2) (h_2 := ?_)
      intro c; exact absurd (le_r _) c
    · intro v hv ih g t q1 q2
      refine b_X12_isSharper_4 (h := fun c => absurd c (ge_c (n := 3) hv (by decide))) (h_2 := fun _ => ?_)
      have L : ∀ i, i ≤ p 60 → ∀ g t, MS f g y p (fo (sa1 (p 60) v) i (fo (sar (p 60)) v s)) → TT t s (fo (sa1 (p 60) v) i (fo (sar (p 60)) v s)) → G X (Rm (d + 2)) mX12_isSharper 11 [(0, .ref y), (1, .int (nI t)), (2, .int (nI v)), (3, .int (nI i))] [] (sI μ g) 0 0 K := by
        refine dn (p 60) ?_ ?_
        · intro g t q1 q2
          have nd := ndq g _ q1
          refine b_X12_isSharper_11 (hw12_r0 := hw) (h := fun _ => ih g t q1 q2) (hs := ?_) (h_2 := ?_) (h_3 := ?_) (hb := ?_) (h_4 := ?_) (h_5 := ?_) <;> (intro c; rw [nd] at c; exact absurd (le_r _) c)
        · intro i hi ih2 g t q1 q2
          have nd := ndq g _ q1
          have st : fo (sa1 (p 60) v) (i + 1) (fo (sar (p 60)) v s) = sa1 (p 60) v i (fo (sa1 (p 60) v) i (fo (sar (p 60)) v s)) := rfl
          have mo0 : Mo s (fo (sa1 (p 60) v) i (fo (sar (p 60)) v s)) := (Mo_saa (p 60) v s).tr (Mo_sar _ _ _ _)
          generalize hS : fo (sa1 (p 60) v) i (fo (sar (p 60)) v s) = S at q1 q2 st mo0
          have mo1 := Mo_sa1 (p 60) v i S
          rw [st] at ih2
          obtain ⟨r1, r2, r3, q, r4, r5, r6, r7⟩ := q1
          have q1 : MS f g y p S := ⟨r1, r2, r3, q, r4, r5, r6, r7⟩
          have e1 : e_X12_atOf (sI μ g) y v i = nI (q (6 + 6 * v + i)) := r4 _ (by omega)
          have l1 : q (6 + 6 * v + i) ≤ 2 := okP_all r5 (by omega) (by omega)
          have e2 : iv (sI μ g) (y + 1) i = nI (q i) := r4 _ (by omega)
          have l2 := r5.2.1 i (by omega)
          have v2 : (e_X12_atOf (sI μ g) y v i = (2 : Int32)) ↔ q (6 + 6 * v + i) = 2 := by rw [e1]; exact nI_eq (b := 2) (by omega) (by decide)
          have v1 : (iv (sI μ g) (y + 1) i = (1 : Int32)) ↔ q i = 1 := by rw [e2]; exact nI_eq (b := 1) (by omega) (by decide)
          have Z : (S.2.2 = false → ¬ q (6 + 6 * v + i) = 2) → G X (Rm (d + 2)) mX12_isSharper 81 [(0, .ref y), (1, .int (nI t)), (2, .int (nI v)), (3, .int (nI i))] [] (sI μ g) 0 0 K := fun z => by
            refine b_X12_isSharper_81 (ih2 g t ?_ ?_)
            · cases hb : S.2.2 with
              | true => exact q1.any hb (mo1.2 hb)
              | false => rw [sa1_n (by rw [← r7 hb]; exact z hb)]; exact q1
            · cases hb : S.2.2 with
              | true => exact TT.any q2.1 (mo1.2 hb)
              | false => rw [sa1_n (by rw [← r7 hb]; exact z hb)]; exact q2
          -- the node becomes one, then its row
          have D : q (6 + 6 * v + i) = 2 → ∀ t2 : Nat, TT t2 s (smk i S) → G X (Rm (d + 2)) mX12_isSharper 48 [(0, .ref y), (2, .int (nI v)), (3, .int (nI i))] [.int (nI t2)] (sI μ g) 0 0 K := fun c1 t2 q3 => by
            refine b_X12_isSharper_48 (hw12_r0 := hw) (hb := by omega) (hc_isAlone := ?_)
            rw [wi_sI, show (6 : Int32) + (6 : Int32) * nI v = nI (6 + 6 * v) by rw [show (6 : Int32) = nI 6 from rfl, pk_mul, nI_add]]
            have m1 : MS f (u2 g (y + 1) i 0) y p (smk i S) := by
              refine ⟨r1.up (by omega), fun r hr => by rw [u2_k (by omega)]; exact r2 r hr, ?_, upd1 q i 0, r4.u1, okP_z r5 (by omega), by rw [upd1_n (by omega)]; exact r6, fun hb => ?_⟩
              · rw [u2_x (by omega), r3]
                unfold smk
                split <;> rfl
              · have hb2 : S.2.2 = false := by
                  cases hb3 : S.2.2 with
                  | false => rfl
                  | true => rw [(Mo_smk i S).2 hb3] at hb; exact absurd hb (by decide)
                have e9 := r7 hb2
                unfold smk
                split
                · rw [e9]
                · rename_i z
                  rw [e9]
                  funext k
                  unfold upd1
                  split
                  · rename_i w; rw [w]; rw [e9] at l2; omega
                  · rfl
            refine m_isAlone (s := smk i S) hw h6 (by omega) (by omega) m1.self (fun f' u w1 w2 => ?_)
            have fin : ∀ x : Nat, x = max t2 u → G X (Rm (d + 2)) mX12_isSharper 80 [(0, .ref y), (2, .int (nI v)), (3, .int (nI i))] [.int (nI x)] (sI μ f') 0 0 K := fun x hx => by
              subst hx
              refine b_X12_isSharper_80 (b_X12_isSharper_81 (ih2 f' _ ?_ ?_))
              · cases hb : S.2.2 with
                | true => exact (m1.to w1).any ((Mo_scl _ _ _ _).2 ((Mo_smk i S).2 hb)) (mo1.2 hb)
                | false => rw [sa1_y (by rw [← r7 hb]; exact c1)]; exact m1.to w1
              · cases hb : S.2.2 with
                | true => exact TT.any (by have := q3.1; have := w2.1; omega) (mo1.2 hb)
                | false =>
                  rw [sa1_y (by rw [← r7 hb]; exact c1)]
                  exact TT_or q3 w2 (mo0.tr (Mo_smk i S)) (Mo_scl _ _ _ _)
            have t1 := q3.1
            have u1 := w2.1
            refine b_X12_isSharper_68 (h := fun c => b_X12_isSharper_75 (fin 1 ?_)) (h_2 := fun c1 c2 => fin 0 ?_) (h_3 := fun c1 c2 => b_X12_isSharper_75 (fin 1 ?_))
            · rw [nI_z (by omega)] at c; omega
            · rw [nI_z (by omega)] at c1 c2; omega
            · rw [nI_z (by omega)] at c1 c2; omega
          have back : (smk i S).2.2 = false → S.2.2 = false := fun hb => by
            cases hb3 : S.2.2 with
            | false => rfl
            | true => rw [(Mo_smk i S).2 hb3] at hb; exact absurd hb (by decide)
          have t1 := q2.1
          refine b_X12_isSharper_11 (hw12_r0 := hw) (h := fun c => absurd c (by rw [nd]; exact ge_c hi (by omega))) (hs := fun _ => by omega) (h_2 := fun _ c => Z (fun _ z => c (v2.mpr z))) (h_3 := fun _ c1 c2 => b_X12_isSharper_43 (D (v2.mp c1) 1 ⟨by decide, fun hb => ?_⟩)) (hb := fun _ _ _ => by omega) (h_4 := fun _ c1 c2 c3 => D (v2.mp c1) 0 ⟨by decide, fun hb => ?_⟩) (h_5 := fun _ c1 c2 c3 => b_X12_isSharper_43 (D (v2.mp c1) 1 ⟨by decide, fun hb => ?_⟩))
          · rw [nI_z (by omega)] at c2
            have := q2.2 (back hb)
            have := (Mo_smk i S).1
            have := mo0.1
            omega
          · rw [nI_z (by omega)] at c2
            have z1 := q2.2 (back hb)
            have e9 := r7 (back hb)
            have z2 : smk i S = S := if_neg (fun z => c3 (v1.mpr (by rw [e9]; exact z)))
            rw [z2]
            omega
          · have e9 := r7 (back hb)
            have z2 : (smk i S).2.1 = S.2.1 + 1 := by unfold smk; rw [if_pos (by rw [← e9]; exact v1.mp c3)]
            have := mo0.1
            omega
      exact L 0 (Nat.zero_le _) g t q1 q2
  exact H1 0 (Nat.zero_le _) f 0 hs ⟨by decide, fun _ => ⟨fun _ => rfl, fun _ => rfl⟩⟩
theorem m_sharpen (hw : WF12 μ y) (hg : Pg0 f y p) (hp : okP p) (hK : ∀ f', MF2 f f' y → Pg0 f' y (shQ p) → K (some (.int (shA p))) (sI μ f')) : Ct X (Rm (d + 3)) mX12_sharpen [.ref y] (sI μ f) K := by
  have h6 := hp.1
  refine Ct_of rfl (Nat.le_of_ble_eq_true rfl) (b_X12_sharpen_0 hw (m_copies (P := 0) (Q := 305) hw (Pg_0.mpr hg) (by decide) (by decide) (by decide) (fun f1 r1 r2 r3 => b_X12_sharpen_8 hw ?_)))
  rw [wi_sI]
  -- the end
  have Z : ∀ g, MS f g y p (shR p) → G X (Rm (d + 3)) mX12_sharpen 34 [(0, .ref y)] [] (sI μ g) 0 0 K := by
    intro g q1
    obtain ⟨s1, s2, s3, q, s4, s5, s6, s7⟩ := q1
    have fl : iv (sI μ g) y 22 = nI (b2n (shR p).2.2) := s3
    refine b_X12_sharpen_34 (hw12_r0 := hw) (h := fun c => ?_) (hc_copies := fun c => ?_)
    · rw [fl] at c
      have hb := b2n_f c
      have e9 := s7 hb
      have nb : ¬ (shR p).2.2 = true := by rw [hb]; decide
      have I := Iv_shp h6 100 _ (Iv_0 p)
      have I : Iv p (shR p) := I
      have L : ∀ k, k ≤ 60 → G X (Rm (d + 3)) mX12_sharpen 56 [(0, .ref y), (2, .int (nI (dif p q k))), (3, .int (nI k))] [] (sI μ g) 0 0 K := by
        refine dn 60 ?_ ?_
        · refine b_X12_sharpen_56 (hw12_r0 := hw) (hK := fun _ => ?_) (hb := ?_) (hb_2 := ?_) (h := ?_) (h_2 := ?_)
          · have := hK g s1
            unfold shQ shA at this
            rw [if_neg nb, if_neg nb, ← e9] at this
            rw [I.2, ← e9] at this
            exact this s4
          all_goals (intro c; exact absurd (le_r _) c)
        · intro k hk ih
          have e1 : iv (sI μ g) (y + 1) k = nI (q k) := s4 k (by omega)
          have e2 : iv (sI μ g) (y + 1) (305 + k) = nI (p k) := s2 k (by omega)
          have lb : ∀ r, r < 60 → p r ≤ 2 := fun r hr => by
            by_cases z : r < 6
            · have := hp.2.1 r z; omega
            · exact okP_all hp (by omega) hr
          have lq : ∀ r, r < 60 → q r ≤ 2 := fun r hr => by
            by_cases z : r < 6
            · have := s5.2.1 r z; omega
            · exact okP_all s5 (by omega) hr
          have l1 := lb k hk
          have l2 := lq k hk
          have eq : (iv (sI μ g) (y + 1) k = iv (sI μ g) (y + 1) (305 + k)) ↔ q k = p k := by rw [e1, e2]; exact nI_eq (by omega) (by omega)
          refine b_X12_sharpen_56 (hw12_r0 := hw) (hK := fun c => absurd c (ge_c (n := 60) hk (by decide))) (hb := fun _ => by omega) (hb_2 := fun _ => by omega) (h := fun _ c => b_X12_sharpen_87 ?_) (h_2 := fun _ c => b_X12_sharpen_87 ?_)
          · have e : dif p q (k + 1) = dif p q k + 1 := by show dif p q k + (if q k = p k then 0 else 1) = _; rw [if_neg (fun z => c (eq.mpr z))]
            rw [e] at ih
            rw [nI_1]; exact ih
          · have e : dif p q (k + 1) = dif p q k + 0 := by show dif p q k + (if q k = p k then 0 else 1) = _; rw [if_pos (eq.mp c)]
            rw [e] at ih
            rw [show (0 : Int32) = nI 0 from rfl, nI_add]; exact ih
      exact L 0 (Nat.zero_le _)
    · rw [fl] at c
      have hb := b2n_t c
      refine m_copies (P := 305) (Q := 0) hw s2 (by decide) (by decide) (by decide) (fun f' t1 t2 t3 => b_X12_sharpen_49 ?_)
      have := hK f' (s1.tr ⟨fun z z0 za zb zc j => t1 z za j, fun k hk hk2 => t2 k (by omega), fun k hk => t1 y (by omega) k⟩)
      unfold shQ shA at this
      rw [if_pos hb, if_pos hb] at this
      exact this (Pg_0.mp t3)
  have L : ∀ m s g, MS f g y p s → Iv p s → s.2.2 = false → 60 < m + s.2.1 → shp (p 60) m s = shR p → ∀ l1 : Int32, ¬ l1 = 0 → G X (Rm (d + 3)) mX12_sharpen 15 [(0, .ref y), (1, .int l1)] [] (sI μ g) 0 0 K := by
    intro m
    induction m with
    | zero => intro s g _ q2 _ q4; have := Iv_c q2; omega
    | succ m ihm =>
      intro s g q1 q2 q3 q4 q5 l1 hl
      have fl : iv (sI μ g) y 22 = nI (b2n s.2.2) := q1.2.2.1
      refine b_X12_sharpen_15 (h := fun c => absurd c hl) (hw12_r0 := hw) (h_2 := fun _ c => absurd (by rw [fl, q3]; rfl) c) (hc_isSharper := fun _ _ => ?_)
      refine m_isSharper hw h6 q1.self (fun f' t w1 w2 => b_X12_sharpen_30 ?_)
      have w3 := q1.to w1
      have fl2 : iv (sI μ f') y 22 = nI (b2n (rnd (p 60) s).2.2) := w3.2.2.1
      have I3 := Iv_rnd q2 h6
      have mo := Mo_rnd (p 60) s
      by_cases stop : (rnd (p 60) s).2.2 = true ∨ (rnd (p 60) s).2.1 = s.2.1
      · have e5 : shR p = rnd (p 60) s := by rw [← q5]; exact if_pos stop
        have Z2 := Z f' (by rw [e5]; exact w3)
        refine b_X12_sharpen_15 (h := fun _ => Z2) (hw12_r0 := hw) (h_2 := fun _ _ => Z2) (hc_isSharper := fun c1 c2 => ?_)
        exfalso
        rw [fl2] at c2
        have hb := b2n_f c2
        rcases stop with z | z
        · rw [hb] at z; exact absurd z (by decide)
        · exact c1 (by rw [(w2.2 hb).mpr z]; rfl)
      · have e5 : shp (p 60) m (rnd (p 60) s) = shR p := by rw [← q5]; exact (if_neg stop).symm
        have hb : (rnd (p 60) s).2.2 = false := Bool.not_eq_true _ |>.mp (fun z => stop (Or.inl z))
        have m1 := mo.1
        have ne : (rnd (p 60) s).2.1 ≠ s.2.1 := fun z => stop (Or.inr z)
        have t1 := w2.1
        exact ihm (rnd (p 60) s) f' w3 I3 hb (by omega) e5 (nI t) (fun c => ne ((w2.2 hb).mp ((nI_z (by omega)).mp c)))
  have m1 : MF2 f (u2 f1 y 22 0) y := ⟨fun z z0 za zb zc j => by rw [u2_x z0]; exact r1 z za j, fun k h1 h2 => by rw [u2_x (by omega)]; exact r2 k (by omega), fun k hk => by rw [u2_k hk]; exact r1 y (by omega) k⟩
  refine L 100 (p, 0, false) _ ⟨m1, fun k hk => by rw [u2_x (by omega)]; exact r3 k hk, u2_s _ _ _ _, p, ?_, hp, rfl, fun _ => rfl⟩ (Iv_0 p) rfl (by show 60 < 100 + 0; decide) rfl 1 (by decide)
  intro k hk
  rw [u2_x (by omega), r2 k (by omega)]
  exact hg k hk
end P37
