def upd1 (q : Nat → Nat) (k n : Nat) : Nat → Nat := fun r => if r = k then n else q r
theorem upd1_s (q : Nat → Nat) (k n : Nat) : upd1 q k n k = n := if_pos rfl
theorem upd1_n {q : Nat → Nat} {k n r : Nat} (h : r ≠ k) : upd1 q k n r = q r := if_neg h
theorem Sh.uA {f : Nat → Nat → Int32} {a v i n : Nat} {q : Nat → Nat} (h : Sh f a q) (hv : v < 3) (hi : i < 6) : Sh (u2 f (a + 3 + v) i (nI n)) a (upd1 q (6 + 6 * v + i) n) := by
  have q1 := S4.uA (i := i) (n := n) (A' := fun w k => upd1 q (6 + 6 * v + i) n (6 + 6 * w + k)) (S4_of h) hv (upd1_s _ _ _) (fun w k hw hk hne => upd1_n (by omega))
  exact q1.cg (sz := _) (fun k hk => upd1_n (by omega)) (fun _ _ _ _ => rfl) (fun r k hr hk => upd1_n (by omega)) |> fun z => ⟨by rw [upd1_n (by omega)]; exact z.1, z.2.1, z.2.2.1, z.2.2.2⟩
theorem Sh.uN {f : Nat → Nat → Int32} {a i j n : Nat} {q : Nat → Nat} (h : Sh f a q) (hi : i < 6) (hj : j < 6) : Sh (u2 f (a + 7 + i) j (nI n)) a (upd1 q (24 + 6 * i + j) n) := by
  have q1 := S4.uN (j := j) (n := n) (N' := fun w k => upd1 q (24 + 6 * i + j) n (24 + 6 * w + k)) (S4_of h) hi (upd1_s _ _ _) (fun w k hw hk hne => upd1_n (by omega))
  exact q1.cg (sz := _) (fun k hk => upd1_n (by omega)) (fun w k hw hk => upd1_n (by omega)) (fun _ _ _ _ => rfl) |> fun z => ⟨by rw [upd1_n (by omega)]; exact z.1, z.2.1, z.2.2.1, z.2.2.2⟩
theorem Sh.um {f : Nat → Nat → Int32} {a i n : Nat} {q : Nat → Nat} (h : Sh f a q) (hi : i < 6) : Sh (u2 f (a + 1) i (nI n)) a (upd1 q i n) := by
  have q1 := S4.um (i := i) (n := n) (m' := upd1 q i n) (S4_of h) (upd1_s _ _ _) (fun k hk hne => upd1_n hne)
  exact q1.cg (sz := _) (fun k hk => rfl) (fun w k hw hk => upd1_n (by omega)) (fun _ _ _ _ => upd1_n (by omega)) |> fun z => ⟨by rw [upd1_n (by omega)]; exact z.1, z.2.1, z.2.2.1, z.2.2.2⟩
theorem Pg0.u1 {f : Nat → Nat → Int32} {y k n : Nat} {p : Nat → Nat} (h : Pg0 f y p) : Pg0 (u2 f (y + 1) k (nI n)) y (upd1 p k n) := h.up (upd1_s _ _ _) (fun _ _ hne => upd1_n hne)
theorem okP_z {q : Nat → Nat} {k : Nat} (h : okP q) (hk : k < 60) : okP (upd1 q k 0) := by
  have e60 : upd1 q k 0 60 = q 60 := upd1_n (by omega)
  have le : ∀ r, upd1 q k 0 r ≤ q r := fun r => by unfold upd1; split <;> omega
  obtain ⟨q1, q2, q3, q4, q5⟩ := h
  refine ⟨by rw [e60]; exact q1, fun i hi => Nat.le_trans (le i) (q2 i hi), fun v i hv hi => Nat.le_trans (le _) (q3 v i hv hi), fun i j hi hj => Nat.le_trans (le _) (q4 i j hi hj), fun i hi h6 => ?_⟩
  rw [e60] at hi
  obtain ⟨r1, r2, r3⟩ := q5 i hi h6
  have z : ∀ r, q r = 0 → upd1 q k 0 r = 0 := fun r hr => by have := le r; omega
  exact ⟨z _ r1, fun v hv => z _ (r2 v hv), fun j hj => ⟨z _ (r3 j hj).1, z _ (r3 j hj).2⟩⟩
/-- a page, how many were changed, whether it is impossible -/
abbrev sT := (Nat → Nat) × Nat × Bool
def fo (F : Nat → sT → sT) : Nat → sT → sT
  | 0, s => s
  | n + 1, s => F n (fo F n s)
theorem fo_inv {I : sT → Prop} {F : Nat → sT → sT} {s : sT} : ∀ n, (∀ j s, j < n → I s → I (F j s)) → I s → I (fo F n s)
  | 0, _, h => h
  | n + 1, hF, h => hF n _ (by omega) (fo_inv n (fun j s hj => hF j s (by omega)) h)
def sc1 (lo i j : Nat) (s : sT) : sT := if j ≠ i ∧ s.1 (lo + j) = 2 then (s.1, s.2.1, true) else if j ≠ i ∧ s.1 (lo + j) = 1 then (upd1 s.1 (lo + j) 0, s.2.1 + 1, s.2.2) else s
theorem sc1_c {lo i j : Nat} {s : sT} (h : j ≠ i ∧ s.1 (lo + j) = 2) : sc1 lo i j s = (s.1, s.2.1, true) := if_pos h
theorem sc1_o {lo i j : Nat} {s : sT} (h1 : ¬ (j ≠ i ∧ s.1 (lo + j) = 2)) (h : j ≠ i ∧ s.1 (lo + j) = 1) : sc1 lo i j s = (upd1 s.1 (lo + j) 0, s.2.1 + 1, s.2.2) := by unfold sc1; rw [if_neg h1, if_pos h]
theorem sc1_n {lo i j : Nat} {s : sT} (h1 : ¬ (j ≠ i ∧ s.1 (lo + j) = 2)) (h : ¬ (j ≠ i ∧ s.1 (lo + j) = 1)) : sc1 lo i j s = s := by unfold sc1; rw [if_neg h1, if_neg h]
def scl (n lo i : Nat) (s : sT) : sT := fo (sc1 lo i) n s
def smk (i : Nat) (s : sT) : sT := if s.1 i = 1 then (upd1 s.1 i 0, s.2.1 + 1, s.2.2) else s
def sa1 (n v i : Nat) (s : sT) : sT := if s.1 (6 + 6 * v + i) = 2 then scl n (6 + 6 * v) i (smk i s) else s
theorem sa1_y {n v i : Nat} {s : sT} (h : s.1 (6 + 6 * v + i) = 2) : sa1 n v i s = scl n (6 + 6 * v) i (smk i s) := if_pos h
theorem sa1_n {n v i : Nat} {s : sT} (h : ¬ s.1 (6 + 6 * v + i) = 2) : sa1 n v i s = s := if_neg h
def sar (n v : Nat) (s : sT) : sT := fo (sa1 n v) n s
def saa (n : Nat) (s : sT) : sT := fo (sar n) 3 s
def sn1 (n i j : Nat) (s : sT) : sT := if s.1 (24 + 6 * i + j) = 2 ∧ s.1 j = 0 then scl n (24 + 6 * i) j s else s
theorem sn1_y {n i j : Nat} {s : sT} (h : s.1 (24 + 6 * i + j) = 2 ∧ s.1 j = 0) : sn1 n i j s = scl n (24 + 6 * i) j s := if_pos h
theorem sn1_n {n i j : Nat} {s : sT} (h : ¬ (s.1 (24 + 6 * i + j) = 2 ∧ s.1 j = 0)) : sn1 n i j s = s := if_neg h
def snr (n i : Nat) (s : sT) : sT := fo (sn1 n i) n s
def snn (n : Nat) (s : sT) : sT := fo (snr n) n s
def rnd (n : Nat) (s : sT) : sT := snn n (saa n s)
def dif (p q : Nat → Nat) : Nat → Nat
  | 0 => 0
  | n + 1 => dif p q n + (if q n = p n then 0 else 1)
theorem dif_le (p q : Nat → Nat) : ∀ n, dif p q n ≤ n
  | 0 => Nat.le_refl _
  | n + 1 => by
    have := dif_le p q n
    unfold dif
    split <;> omega
theorem dif_cg {p q q' : Nat → Nat} : ∀ n, (∀ k, k < n → q k = q' k) → dif p q n = dif p q' n
  | 0, _ => rfl
  | n + 1, h => by
    unfold dif
    rw [dif_cg n (fun k hk => h k (by omega)), h n (by omega)]
theorem dif_s {p q : Nat → Nat} {k : Nat} (h1 : q k = p k) (h2 : p k ≠ 0) : ∀ n, k < n → dif p (upd1 q k 0) n = dif p q n + 1
  | 0, h => absurd h (Nat.not_lt_zero _)
  | n + 1, h => by
    unfold dif
    by_cases e : k = n
    · subst e
      rw [dif_cg (q' := q) k (fun r hr => upd1_n (by omega)), upd1_s, if_neg (Ne.symm h2), if_pos h1]
    · rw [dif_s h1 h2 n (by omega), upd1_n (Ne.symm e)]
      omega
theorem dif_0 (p : Nat → Nat) : ∀ n, dif p p n = 0
  | 0 => rfl
  | n + 1 => by unfold dif; rw [dif_0 p n, if_pos rfl]
/-- what every step keeps -/
def Iv (p : Nat → Nat) (s : sT) : Prop := (∀ k, s.1 k = p k ∨ (s.1 k = 0 ∧ p k = 1 ∧ k < 60)) ∧ s.2.1 = dif p s.1 60
theorem Iv_z {p q : Nat → Nat} {c k : Nat} {b : Bool} (h : Iv p (q, c, b)) (hk : k < 60) (h1 : q k = 1) (b' : Bool) : Iv p (upd1 q k 0, c + 1, b') := by
  have e : q k = p k := by
    rcases h.1 k with r | r
    · exact r
    · have : q k = 0 := r.1
      omega
  refine ⟨fun r => ?_, ?_⟩
  · show upd1 q k 0 r = p r ∨ _
    by_cases z : r = k
    · right
      subst z
      exact ⟨upd1_s _ _ _, by omega, hk⟩
    · show upd1 q k 0 r = p r ∨ (upd1 q k 0 r = 0 ∧ _)
      rw [upd1_n z]
      exact h.1 r
  · show c + 1 = dif p (upd1 q k 0) 60
    rw [dif_s e (by omega) 60 hk]
    have : c = dif p q 60 := h.2
    omega
theorem Iv_sc1 {p : Nat → Nat} {s : sT} {lo i j : Nat} (h : Iv p s) (hk : lo + j < 60) : Iv p (sc1 lo i j s) := by
  unfold sc1
  split
  · exact h
  · split
    · rename_i z; exact Iv_z h hk z.2 _
    · exact h
theorem Iv_scl {p : Nat → Nat} {s : sT} {n lo i : Nat} (h : Iv p s) (hk : lo + n ≤ 60) : Iv p (scl n lo i s) := fo_inv n (fun j s hj hs => Iv_sc1 hs (by omega)) h
theorem Iv_smk {p : Nat → Nat} {s : sT} {i : Nat} (h : Iv p s) (hk : i < 60) : Iv p (smk i s) := by
  unfold smk
  split
  · rename_i z; exact Iv_z h hk z _
  · exact h
theorem Iv_sa1 {p : Nat → Nat} {s : sT} {n v i : Nat} (h : Iv p s) (hn : n ≤ 6) (hv : v < 3) (hi : i < n) : Iv p (sa1 n v i s) := by
  unfold sa1
  split
  · exact Iv_scl (Iv_smk h (by omega)) (by omega)
  · exact h
theorem Iv_sar {p : Nat → Nat} {s : sT} {n v m : Nat} (h : Iv p s) (hn : n ≤ 6) (hv : v < 3) (hm : m ≤ n) : Iv p (fo (sa1 n v) m s) := fo_inv m (fun j s hj hs => Iv_sa1 hs hn hv (by omega)) h
theorem Iv_saa {p : Nat → Nat} {s : sT} {n m : Nat} (h : Iv p s) (hn : n ≤ 6) (hm : m ≤ 3) : Iv p (fo (sar n) m s) := fo_inv m (fun j s hj hs => Iv_sar hs hn (by omega) (Nat.le_refl _)) h
theorem Iv_sn1 {p : Nat → Nat} {s : sT} {n i j : Nat} (h : Iv p s) (hn : n ≤ 6) (hi : i < n) : Iv p (sn1 n i j s) := by
  unfold sn1
  split
  · exact Iv_scl h (by omega)
  · exact h
theorem Iv_snr {p : Nat → Nat} {s : sT} {n i m : Nat} (h : Iv p s) (hn : n ≤ 6) (hi : i < n) : Iv p (fo (sn1 n i) m s) := fo_inv m (fun j s hj hs => Iv_sn1 hs hn hi) h
theorem Iv_snn {p : Nat → Nat} {s : sT} {n m : Nat} (h : Iv p s) (hn : n ≤ 6) (hm : m ≤ n) : Iv p (fo (snr n) m s) := fo_inv m (fun j s hj hs => Iv_snr hs hn (by omega)) h
theorem Iv_rnd {p : Nat → Nat} {s : sT} {n : Nat} (h : Iv p s) (hn : n ≤ 6) : Iv p (rnd n s) := Iv_snn (Iv_saa h hn (Nat.le_refl _)) hn (Nat.le_refl _)
theorem Iv_60 {p : Nat → Nat} {s : sT} (h : Iv p s) : s.1 60 = p 60 := by
  rcases h.1 60 with r | r
  · exact r
  · omega
theorem Iv_ok {p : Nat → Nat} {s : sT} (h : Iv p s) (hp : okP p) : okP s.1 := by
  have e60 := Iv_60 h
  have le : ∀ r, s.1 r ≤ p r := fun r => by
    rcases h.1 r with z | z <;> omega
  obtain ⟨q1, q2, q3, q4, q5⟩ := hp
  refine ⟨by rw [e60]; exact q1, fun i hi => Nat.le_trans (le i) (q2 i hi), fun v i hv hi => Nat.le_trans (le _) (q3 v i hv hi), fun i j hi hj => Nat.le_trans (le _) (q4 i j hi hj), fun i hi h6 => ?_⟩
  rw [e60] at hi
  obtain ⟨r1, r2, r3⟩ := q5 i hi h6
  have z : ∀ r, p r = 0 → s.1 r = 0 := fun r hr => by have := le r; omega
  exact ⟨z _ r1, fun v hv => z _ (r2 v hv), fun j hj => ⟨z _ (r3 j hj).1, z _ (r3 j hj).2⟩⟩
theorem Iv_c {p : Nat → Nat} {s : sT} (h : Iv p s) : s.2.1 ≤ 60 := by
  rw [h.2]; exact dif_le _ _ _
/-- rounds until nothing changes or it is impossible -/
def shp (n : Nat) : Nat → sT → sT
  | 0, s => s
  | m + 1, s => if (rnd n s).2.2 = true ∨ (rnd n s).2.1 = s.2.1 then rnd n s else shp n m (rnd n s)
theorem Iv_shp {p : Nat → Nat} {n : Nat} (hn : n ≤ 6) : ∀ m (s : sT), Iv p s → Iv p (shp n m s)
  | 0, _, h => h
  | m + 1, s, h => by
    unfold shp
    split
    · exact Iv_rnd h hn
    · exact Iv_shp hn m _ (Iv_rnd h hn)
def b2n (b : Bool) : Nat := if b = true then 1 else 0
/-- a row of the shape at a: its first place on the page, its address -/
def rowAt (a lo r : Nat) : Prop := (∃ v, v < 3 ∧ lo = 6 + 6 * v ∧ r = a + 3 + v) ∨ ∃ i, i < 6 ∧ lo = 24 + 6 * i ∧ r = a + 7 + i
section P36
variable {X : cX} {d : Nat} {μ : mM} {K : Option Value → mM → Prop} {f : Nat → Nat → Int32} {a b y v w : Nat} {p : Nat → Nat}
theorem row_at {lo r j : Nat} {q : Nat → Nat} (hr : rowAt a lo r) (h : Sh f a q) (hj : j < 6) : f r j = nI (q (lo + j)) := by
  rcases hr with ⟨v, hv, rfl, rfl⟩ | ⟨i, hi, rfl, rfl⟩
  · exact h.2.2.1 v j hv hj
  · exact h.2.2.2 i j hi hj
theorem row_up {lo r j n : Nat} {q : Nat → Nat} (hr : rowAt a lo r) (h : Sh f a q) (hj : j < 6) : Sh (u2 f r j (nI n)) a (upd1 q (lo + j) n) := by
  rcases hr with ⟨v, hv, rfl, rfl⟩ | ⟨i, hi, rfl, rfl⟩
  · exact h.uA hv hj
  · exact h.uN hi hj
theorem row_k {lo r : Nat} (hr : rowAt a lo r) (hw : WF5 μ a) : kd μ r = (1, 6) := by
  rcases hr with ⟨v, hv, rfl, rfl⟩ | ⟨i, hi, rfl, rfl⟩
  · exact w5_q2 hw v hv
  · exact w5_q3 hw i hi
theorem row_l {lo r : Nat} (hr : rowAt a lo r) : a + 3 ≤ r ∧ r < a + 13 ∧ 6 ≤ lo ∧ lo + 6 ≤ 60 := by
  rcases hr with ⟨v, hv, rfl, rfl⟩ | ⟨i, hi, rfl, rfl⟩ <;> omega
/-- the class's sharpening at b stands at s -/
def CS (f : Nat → Nat → Int32) (b : Nat) (s : sT) : Prop := Sh f (b + 1) s.1 ∧ f b 1 = nI s.2.1 ∧ f b 2 = nI (b2n s.2.2)
def SF (f g : Nat → Nat → Int32) (b : Nat) : Prop := ∀ z, (z < b ∨ b + 14 ≤ z) → ∀ j, g z j = f z j
theorem SF.u {g : Nat → Nat → Int32} {z0 k : Nat} {x : Int32} (h : SF f g b) (hz : b ≤ z0 ∧ z0 < b + 14) : SF f (u2 g z0 k x) b := fun z hz2 j => by rw [u2_x (by omega)]; exact h z hz2 j
theorem CS.f2 {s : sT} (h : CS f b s) : CS (u2 f b 2 1) b (s.1, s.2.1, true) :=
  ⟨h.1.fr (fun z h1 h2 j => u2_x (by omega)), by rw [u2_k (by omega)]; exact h.2.1, u2_s _ _ _ _⟩
theorem CS.f1 {s : sT} {q : Nat → Nat} (h : CS f b s) (g : Nat → Nat → Int32) (h1 : Sh g (b + 1) q) (h2 : ∀ j, g b j = f b j) : CS (u2 g b 1 (nI (s.2.1 + 1))) b (q, s.2.1 + 1, s.2.2) :=
  ⟨h1.fr (fun z h1 h2 j => u2_x (by omega)), u2_s _ _ _ _, by rw [u2_k (by omega), h2]; exact h.2.2⟩
theorem c_clearO {s : sT} {n lo r i : Nat} (hwb : WF6 μ b) (hw : WF5 μ (b + 1)) (hr : rowAt (b + 1) lo r) (hs : CS f b s) (hI : Iv p s) (hp : okP p) (hn : n = p 60) (hi : i < 6) (hK : ∀ f', SF f f' b → CS f' b (scl n lo i s) → K none (sI μ f')) : Ct X (Rm d) mX6_clearOthers [.ref b, .ref r, .int (nI i)] (sI μ f) K := by
  have h6 := hp.1
  have rl := row_l hr
  refine Ct_of rfl (Nat.le_of_ble_eq_true rfl) (b_X6_clearOthers_0 ?_)
  have H : ∀ j, j ≤ n → ∀ g, SF f g b → CS g b (fo (sc1 lo i) j s) → G X (Rm d) mX6_clearOthers 2 [(0, .ref b), (1, .ref r), (2, .int (nI i)), (3, .int (nI j))] [] (sI μ g) 0 0 K := by
    refine dn n ?_ ?_
    · intro g q1 q2
      have I2 : Iv p (fo (sc1 lo i) n s) := Iv_scl hI (by omega)
      have sz : iv (sI μ g) (b + 1) 0 = nI n := by rw [iv_sI, q2.1.1, Iv_60 I2, hn]
      refine b_X6_clearOthers_2 (n0 := 6) (hw6_r0 := hwb) (hw5_r01 := hw) (hK := fun _ => hK g q1 q2) (hk_r1 := row_k hr hw) (h := ?_) (hb := ?_) (h_2 := ?_) (h_3 := ?_) <;> (intro c; rw [sz] at c; exact absurd (le_r _) c)
    · intro j hj ih g q1 q2
      have I2 : Iv p (fo (sc1 lo i) j s) := fo_inv j (fun k s hk hs => Iv_sc1 hs (by omega)) hI
      have sz : iv (sI μ g) (b + 1) 0 = nI n := by rw [iv_sI, q2.1.1, Iv_60 I2, hn]
      have ok := Iv_ok I2 hp
      have e1 : iv (sI μ g) r j = nI ((fo (sc1 lo i) j s).1 (lo + j)) := row_at hr q2.1 (by omega)
      have l1 : (fo (sc1 lo i) j s).1 (lo + j) ≤ 2 := okP_all ok (by omega) (by omega)
      have ei : (nI j = nI i) ↔ j = i := nI_eq (by omega) (by omega)
      have v2 : (iv (sI μ g) r j = (2 : Int32)) ↔ (fo (sc1 lo i) j s).1 (lo + j) = 2 := by rw [e1]; exact nI_eq (b := 2) (by omega) (by decide)
      have v1 : (iv (sI μ g) r j = (1 : Int32)) ↔ (fo (sc1 lo i) j s).1 (lo + j) = 1 := by rw [e1]; exact nI_eq (b := 1) (by omega) (by decide)
      have Z : ∀ g, SF f g b → CS g b (fo (sc1 lo i) (j + 1) s) → G X (Rm d) mX6_clearOthers 59 [(0, .ref b), (1, .ref r), (2, .int (nI i)), (3, .int (nI j))] [] (sI μ g) 0 0 K := fun g r1 r2 => b_X6_clearOthers_59 (ih g r1 r2)
      have st : fo (sc1 lo i) (j + 1) s = sc1 lo i j (fo (sc1 lo i) j s) := rfl
      have same : ¬ (j ≠ i ∧ (fo (sc1 lo i) j s).1 (lo + j) = 2) → ¬ (j ≠ i ∧ (fo (sc1 lo i) j s).1 (lo + j) = 1) → fo (sc1 lo i) (j + 1) s = fo (sc1 lo i) j s := fun z1 z2 => by
        rw [st, sc1_n z1 z2]
      have T : ¬ (j ≠ i ∧ (fo (sc1 lo i) j s).1 (lo + j) = 2) → G X (Rm d) mX6_clearOthers 33 [(0, .ref b), (1, .ref r), (2, .int (nI i)), (3, .int (nI j))] [] (sI μ g) 0 0 K := fun z1 => by
        refine b_X6_clearOthers_33 (n0 := 6) (h := fun c => Z g q1 ?_) (hk_r1 := row_k hr hw) (hb := fun _ => by omega) (h_2 := fun c1 c2 => Z g q1 ?_) (hb_2 := fun _ _ => by omega) (hw6_r0 := hwb) (h_3 := fun c1 c2 => ?_)
        · rw [ei] at c
          rw [same z1 (fun z => z.1 c)]; exact q2
        · rw [v1] at c2
          rw [same z1 (fun z => c2 z.2)]; exact q2
        · rw [v1] at c2
          rw [ei] at c1
          rw [wi_sI, iv_sI, wi_sI, u2_x (by omega), q2.2.1, nI_1]
          refine Z _ ((q1.u (by omega)).u (by omega)) ?_
          rw [st, sc1_o z1 ⟨c1, c2⟩]
          exact CS.f1 q2 _ (row_up (n := 0) hr q2.1 (by omega)) (fun k => u2_x (by omega))
      refine b_X6_clearOthers_2 (n0 := 6) (hw6_r0 := hwb) (hw5_r01 := hw) (hK := fun c => absurd c (by rw [sz]; exact ge_c hj (by omega))) (hk_r1 := row_k hr hw) (h := fun _ c => T (fun z => z.1 (ei.mp c))) (hb := fun _ _ => by omega) (h_2 := fun _ c1 c2 => T (fun z => c2 (v2.mpr z.2))) (h_3 := fun _ c1 c2 => ?_)
      rw [v2] at c2
      rw [ei] at c1
      rw [wi_sI]
      refine Z _ (q1.u (by omega)) ?_
      rw [st, sc1_c ⟨c1, c2⟩]
      exact q2.f2
  exact H 0 (Nat.zero_le _) f (fun _ _ _ => rfl) hs
theorem c_makeS {s : sT} {i : Nat} (hwb : WF6 μ b) (hw : WF5 μ (b + 1)) (hs : CS f b s) (hI : Iv p s) (hp : okP p) (hi : i < 6) (hK : ∀ f', SF f f' b → CS f' b (smk i s) → K none (sI μ f')) : Ct X (Rm d) mX6_makeSingle [.ref b, .int (nI i)] (sI μ f) K := by
  have ok := Iv_ok hI hp
  have l1 := ok.2.1 i hi
  have e1 : iv (sI μ f) (b + 1 + 1) i = nI (s.1 i) := hs.1.2.1 i hi
  refine Ct_of rfl (Nat.le_of_ble_eq_true rfl) (b_X6_makeSingle_0 (hw6_r0 := hwb) (hw5_r01 := hw) (hb := hi) (hK := fun c => hK f (fun _ _ _ => rfl) ?_) (hb_2 := fun _ => hi) (hK_2 := fun c => ?_))
  · rw [e1, nI_z (by omega)] at c
    unfold smk
    rw [if_neg (by omega)]; exact hs
  · rw [e1, nI_z (by omega)] at c
    rw [wi_sI, iv_sI, wi_sI, u2_x (by omega), hs.2.1, nI_1]
    refine hK _ (SF.u (SF.u (fun _ _ _ => rfl) (by omega)) (by omega)) ?_
    unfold smk
    rw [if_pos (by omega)]
    exact CS.f1 hs _ (hs.1.um (n := 0) hi) (fun k => u2_x (by omega))
theorem SF.tr {g h : Nat → Nat → Int32} (h1 : SF f g b) (h2 : SF g h b) : SF f h b := fun z hz j => (h2 z hz j).trans (h1 z hz j)
theorem c_dAts {s : sT} {n : Nat} (hwb : WF6 μ b) (hw : WF5 μ (b + 1)) (hs : CS f b s) (hI : Iv p s) (hp : okP p) (hn : n = p 60) (hK : ∀ f', SF f f' b → CS f' b (saa n s) → K none (sI μ f')) : Ct X (Rm (d + 1)) mX6_drawFromAts [.ref b] (sI μ f) K := by
  have h6 := hp.1
  refine Ct_of rfl (Nat.le_of_ble_eq_true rfl) (b_X6_drawFromAts_0 ?_)
  have H : ∀ v, v ≤ 3 → ∀ g, SF f g b → CS g b (fo (sar n) v s) → G X (Rm (d + 1)) mX6_drawFromAts 2 [(0, .ref b), (1, .int (nI v))] [] (sI μ g) 0 0 K := by
    refine dn 3 ?_ ?_
    · intro g q1 q2
      refine b_X6_drawFromAts_2 (hK := fun _ => hK g q1 q2) (h := ?_)
      intro c; exact absurd (le_r _) c
    · intro v hv ih g q1 q2
      have I1 : Iv p (fo (sar n) v s) := Iv_saa hI (by omega) (by omega)
      refine b_X6_drawFromAts_2 (hK := fun c => absurd c (ge_c (n := 3) hv (by decide))) (h := fun _ => ?_)
      have L : ∀ i, i ≤ n → ∀ g, SF f g b → CS g b (fo (sa1 n v) i (fo (sar n) v s)) → G X (Rm (d + 1)) mX6_drawFromAts 9 [(0, .ref b), (1, .int (nI v)), (2, .int (nI i))] [] (sI μ g) 0 0 K := by
        refine dn n ?_ ?_
        · intro g q1 q2
          have I2 : Iv p (fo (sa1 n v) n (fo (sar n) v s)) := Iv_sar I1 (by omega) hv (Nat.le_refl _)
          have sz : iv (sI μ g) (b + 1) 0 = nI n := by rw [iv_sI, q2.1.1, Iv_60 I2, hn]
          refine b_X6_drawFromAts_9 (hw6_r0 := hwb) (hw5_r01 := hw) (h := fun _ => ih g q1 q2) (hb := ?_) (hb_2 := ?_) (h_2 := ?_) (hc_makeSingle := ?_) <;> (intro c; rw [sz] at c; exact absurd (le_r _) c)
        · intro i hi ih2 g q1 q2
          have I2 : Iv p (fo (sa1 n v) i (fo (sar n) v s)) := Iv_sar I1 (by omega) hv (by omega)
          have sz : iv (sI μ g) (b + 1) 0 = nI n := by rw [iv_sI, q2.1.1, Iv_60 I2, hn]
          have ok := Iv_ok I2 hp
          have e1 : iv (sI μ g) (b + 1 + 3 + v) i = nI ((fo (sa1 n v) i (fo (sar n) v s)).1 (6 + 6 * v + i)) := q2.1.2.2.1 v i hv (by omega)
          have l1 := ok.2.2.1 v i hv (by omega)
          have v2 : (iv (sI μ g) (b + 1 + 3 + v) i = (2 : Int32)) ↔ (fo (sa1 n v) i (fo (sar n) v s)).1 (6 + 6 * v + i) = 2 := by rw [e1]; exact nI_eq (b := 2) (by omega) (by decide)
          have st : fo (sa1 n v) (i + 1) (fo (sar n) v s) = sa1 n v i (fo (sa1 n v) i (fo (sar n) v s)) := rfl
          refine b_X6_drawFromAts_9 (hw6_r0 := hwb) (hw5_r01 := hw) (h := fun c => absurd c (by rw [sz]; exact ge_c hi (by omega))) (hb := fun _ => hv) (hb_2 := fun _ => by omega) (h_2 := fun _ c => b_X6_drawFromAts_54 (ih2 g q1 ?_)) (hc_makeSingle := fun _ c => ?_)
          · rw [v2] at c
            rw [st, sa1_n c]; exact q2
          · rw [v2] at c
            refine c_makeS hwb hw q2 I2 hp (by omega) (fun f1 r1 r2 => b_X6_drawFromAts_40 hwb hw hv ?_)
            refine c_clearO (lo := 6 + 6 * v) hwb hw (Or.inl ⟨v, hv, rfl, rfl⟩) r2 (Iv_smk I2 (by omega)) hp hn (by omega) (fun f2 s1 s2 => b_X6_drawFromAts_54 (ih2 f2 ((q1.tr r1).tr s1) ?_))
            rw [st, sa1_y c]; exact s2
      exact L 0 (Nat.zero_le _) g q1 q2
  exact H 0 (Nat.zero_le _) f (fun _ _ _ => rfl) hs
theorem c_dNexts {s : sT} {n : Nat} (hwb : WF6 μ b) (hw : WF5 μ (b + 1)) (hs : CS f b s) (hI : Iv p s) (hp : okP p) (hn : n = p 60) (hK : ∀ f', SF f f' b → CS f' b (snn n s) → K none (sI μ f')) : Ct X (Rm (d + 1)) mX6_drawFromNexts [.ref b] (sI μ f) K := by
  have h6 := hp.1
  refine Ct_of rfl (Nat.le_of_ble_eq_true rfl) (b_X6_drawFromNexts_0 ?_)
  have H : ∀ v, v ≤ n → ∀ g, SF f g b → CS g b (fo (snr n) v s) → G X (Rm (d + 1)) mX6_drawFromNexts 2 [(0, .ref b), (1, .int (nI v))] [] (sI μ g) 0 0 K := by
    refine dn n ?_ ?_
    · intro g q1 q2
      have I1 : Iv p (fo (snr n) n s) := Iv_snn hI (by omega) (by omega)
      have sz : iv (sI μ g) (b + 1) 0 = nI n := by rw [iv_sI, q2.1.1, Iv_60 I1, hn]
      refine b_X6_drawFromNexts_2 (hw6_r0 := hwb) (hw5_r01 := hw) (hK := fun _ => hK g q1 q2) (h := ?_)
      intro c; rw [sz] at c; exact absurd (le_r _) c
    · intro v hv ih g q1 q2
      have I1 : Iv p (fo (snr n) v s) := Iv_snn hI (by omega) (by omega)
      have sz : iv (sI μ g) (b + 1) 0 = nI n := by rw [iv_sI, q2.1.1, Iv_60 I1, hn]
      refine b_X6_drawFromNexts_2 (hw6_r0 := hwb) (hw5_r01 := hw) (hK := fun c => absurd c (by rw [sz]; exact ge_c hv (by omega))) (h := fun _ => ?_)
      have L : ∀ i, i ≤ n → ∀ g, SF f g b → CS g b (fo (sn1 n v) i (fo (snr n) v s)) → G X (Rm (d + 1)) mX6_drawFromNexts 15 [(0, .ref b), (1, .int (nI v)), (2, .int (nI i))] [] (sI μ g) 0 0 K := by
        refine dn n ?_ ?_
        · intro g q1 q2
          have I2 : Iv p (fo (sn1 n v) n (fo (snr n) v s)) := Iv_snr I1 (by omega) hv
          have sz : iv (sI μ g) (b + 1) 0 = nI n := by rw [iv_sI, q2.1.1, Iv_60 I2, hn]
          refine b_X6_drawFromNexts_15 (hw6_r0 := hwb) (hw5_r01 := hw) (h := fun _ => ih g q1 q2) (hb := ?_) (hb_2 := ?_) (h_2 := ?_) (hb_3 := ?_) (h_3 := ?_) (hb_4 := ?_) (hc_clearOthers := ?_) <;> (intro c; rw [sz] at c; exact absurd (le_r _) c)
        · intro i hi ih2 g q1 q2
          have I2 : Iv p (fo (sn1 n v) i (fo (snr n) v s)) := Iv_snr I1 (by omega) hv
          have sz : iv (sI μ g) (b + 1) 0 = nI n := by rw [iv_sI, q2.1.1, Iv_60 I2, hn]
          have ok := Iv_ok I2 hp
          have e1 : iv (sI μ g) (b + 1 + 7 + v) i = nI ((fo (sn1 n v) i (fo (snr n) v s)).1 (24 + 6 * v + i)) := q2.1.2.2.2 v i (by omega) (by omega)
          have l1 := ok.2.2.2.1 v i (by omega) (by omega)
          have v2 : (iv (sI μ g) (b + 1 + 7 + v) i = (2 : Int32)) ↔ (fo (sn1 n v) i (fo (snr n) v s)).1 (24 + 6 * v + i) = 2 := by rw [e1]; exact nI_eq (b := 2) (by omega) (by decide)
          have l2 := ok.2.1 i (by omega)
          have e2 : iv (sI μ g) (b + 1 + 1) i = nI ((fo (sn1 n v) i (fo (snr n) v s)).1 i) := q2.1.2.1 i (by omega)
          have v0 : (iv (sI μ g) (b + 1 + 1) i = 0) ↔ (fo (sn1 n v) i (fo (snr n) v s)).1 i = 0 := by rw [e2]; exact nI_z (by omega)
          have st : fo (sn1 n v) (i + 1) (fo (snr n) v s) = sn1 n v i (fo (sn1 n v) i (fo (snr n) v s)) := rfl
          refine b_X6_drawFromNexts_15 (hw6_r0 := hwb) (hw5_r01 := hw) (h := fun c => absurd c (by rw [sz]; exact ge_c hi (by omega))) (hb := fun _ => by omega) (hb_2 := fun _ => by omega) (h_2 := fun _ c => b_X6_drawFromNexts_67 (ih2 g q1 ?_)) (hb_3 := fun _ _ => by omega) (h_3 := fun _ _ c => b_X6_drawFromNexts_67 (ih2 g q1 ?_)) (hb_4 := fun _ _ _ => by omega) (hc_clearOthers := fun _ c1 c2 => ?_)
          · rw [v2] at c
            rw [st, sn1_n (fun z => c z.1)]; exact q2
          · rw [v0] at c
            rw [st, sn1_n (fun z => c z.2)]; exact q2
          · rw [v2] at c1
            rw [v0] at c2
            refine c_clearO (lo := 24 + 6 * v) hwb hw (Or.inr ⟨v, by omega, rfl, rfl⟩) q2 I2 hp hn (by omega) (fun f2 s1 s2 => b_X6_drawFromNexts_67 (ih2 f2 (q1.tr s1) ?_))
            rw [st, sn1_y ⟨c1, c2⟩]; exact s2
      exact L 0 (Nat.zero_le _) g q1 q2
  exact H 0 (Nat.zero_le _) f (fun _ _ _ => rfl) hs
/-- what sharpen answers, and the page behind it -/
def shR (p : Nat → Nat) : sT := shp (p 60) 100 (p, 0, false)
def shA (p : Nat → Nat) : Int32 := if (shR p).2.2 = true then -2 else nI (shR p).2.1
def shQ (p : Nat → Nat) : Nat → Nat := if (shR p).2.2 = true then p else (shR p).1
theorem Iv_0 (p : Nat → Nat) : Iv p (p, 0, false) := ⟨fun _ => Or.inl rfl, (dif_0 p 60).symm⟩
theorem okP_sh {p : Nat → Nat} (hp : okP p) : okP (shQ p) := by
  unfold shQ
  split
  · exact hp
  · exact Iv_ok (Iv_shp hp.1 100 _ (Iv_0 p)) hp
theorem c_sharpen (hwa : WF5 μ a) (hwb : WF6 μ b) (hw : WF5 μ (b + 1)) (hab : a + 24 ≤ b ∨ b + 25 ≤ a) (hs : Sh f a p) (hp : okP p) (hK : ∀ f', (∀ z, (z < a ∨ a + 24 ≤ z) → (z < b ∨ b + 25 ≤ z) → ∀ j, f' z j = f z j) → Sh f' a (shQ p) → K (some (.int (shA p))) (sI μ f')) : Ct X (Rm (d + 2)) mX6_apply [.ref b, .ref a] (sI μ f) K := by
  have h6 := hp.1
  refine Ct_of rfl (Nat.le_of_ble_eq_true rfl) (b_X6_apply_0 hwb hw (c_copy hw hwa (by omega) hs (fun i hi => hp.2.1 i hi) (fun f1 r1 r2 => b_X6_apply_8 hwb ?_)))
  rw [wi_sI, wi_sI]
  have Z : ∀ g, (∀ z, (z < b ∨ b + 25 ≤ z) → ∀ j, g z j = f z j) → CS g b (shR p) → G X (Rm (d + 2)) mX6_apply 62 [(0, .ref b), (1, .ref a)] [] (sI μ g) 0 0 K := by
    intro g q1 q2
    have e1 : iv (sI μ g) b 2 = nI (b2n (shR p).2.2) := q2.2.2
    have sg : Sh g a p := hs.fr (fun z h1 h2 j => q1 z (by omega) j)
    refine b_X6_apply_62 (hw6_r0 := hwb) (hw5_r1 := hwa) (hc_copy := fun c => ?_) (hK := fun c => ?_)
    · rw [e1] at c
      have nb : ¬ (shR p).2.2 = true := fun z => by rw [z] at c; exact absurd c (by decide)
      refine c_copy hwa hw (by omega) q2.1 (fun i hi => (Iv_ok (Iv_shp h6 100 _ (Iv_0 p)) hp).2.1 i hi) (fun f2 s1 s2 => b_X6_apply_80 hwb ?_)
      have e2 : iv (sI μ f2) b 1 = nI (shR p).2.1 := by rw [iv_sI, s1 b (by omega)]; exact q2.2.1
      rw [e2]
      have := hK f2 (fun z h1 h2 j => (s1 z (by omega) j).trans (q1 z (by omega) j))
      unfold shQ shA at this
      rw [if_neg nb, if_neg nb] at this
      exact this s2
    · rw [e1] at c
      have nb : (shR p).2.2 = true := Decidable.byContradiction fun z => by rw [Bool.not_eq_true] at z; rw [z] at c; exact absurd rfl c
      have := hK g (fun z h1 h2 j => q1 z h2 j)
      unfold shQ shA at this
      rw [if_pos nb, if_pos nb] at this
      exact this sg
  -- rounds
  have L : ∀ m r, m + r = 100 → ∀ s g, (∀ z, (z < b ∨ b + 25 ≤ z) → ∀ j, g z j = f z j) → CS g b s → Iv p s → s.2.2 = false → 0 < m → shp (p 60) m s = shR p → ∀ l2 : Int32, ¬ nI s.2.1 = l2 → G X (Rm (d + 2)) mX6_apply 22 [(0, .ref b), (1, .ref a), (2, .int l2), (3, .int (nI r))] [] (sI μ g) 0 0 K := by
    intro m
    induction m with
    | zero => intro r _ s g _ _ _ _ h0; exact absurd h0 (Nat.not_lt_zero _)
    | succ m ihm =>
      intro r hr s g q1 q2 q3 q4 _ q5 l2 q6
      have e1 : iv (sI μ g) b 1 = nI s.2.1 := q2.2.1
      have e2 : iv (sI μ g) b 2 = nI (b2n s.2.2) := q2.2.2
      refine b_X6_apply_22 (h := fun c => absurd c (ge_c (n := 100) (by omega) (by decide))) (hw6_r0 := hwb) (h_2 := fun _ c => absurd (e1.symm.trans c) q6) (h_3 := fun _ _ c => absurd (by rw [e2, q4]; rfl) c) (hc_drawFromAts := fun _ _ _ => ?_)
      rw [e1]
      refine c_dAts hwb hw q2 q3 hp rfl (fun f2 t1 t2 => b_X6_apply_52 hwb (c_dNexts hwb hw t2 (Iv_saa q3 h6 (Nat.le_refl _)) hp rfl (fun f3 u1 u2 => b_X6_apply_56 ?_)))
      have u3 : CS f3 b (rnd (p 60) s) := u2
      have I3 := Iv_rnd q3 h6
      have fr3 : ∀ z, (z < b ∨ b + 25 ≤ z) → ∀ j, f3 z j = f z j := fun z hz j => by rw [u1 z (by omega), t1 z (by omega)]; exact q1 z hz j
      have lc := Iv_c I3
      have lc0 := Iv_c q3
      have e3 : iv (sI μ f3) b 1 = nI (rnd (p 60) s).2.1 := u3.2.1
      have e4 : iv (sI μ f3) b 2 = nI (b2n (rnd (p 60) s).2.2) := u3.2.2
      by_cases stop : (rnd (p 60) s).2.2 = true ∨ (rnd (p 60) s).2.1 = s.2.1
      · have e5 : shR p = rnd (p 60) s := by rw [← q5]; exact if_pos stop
        have Z2 := Z f3 fr3 (by rw [e5]; exact u3)
        refine b_X6_apply_22 (h := fun _ => Z2) (hw6_r0 := hwb) (h_2 := fun _ _ => Z2) (h_3 := fun _ _ _ => Z2) (hc_drawFromAts := fun _ c1 c2 => ?_)
        exfalso
        rcases stop with z | z
        · rw [e4, z] at c2; exact absurd c2 (by decide)
        · exact c1 (by rw [e3, z])
      · have e5 : shp (p 60) m (rnd (p 60) s) = shR p := by rw [← q5]; exact (if_neg stop).symm
        by_cases m0 : m = 0
        · subst m0
          have e6 : shR p = rnd (p 60) s := e5.symm
          have Z2 := Z f3 fr3 (by rw [e6]; exact u3)
          have e7 : r + 1 = 100 := by omega
          rw [e7]
          refine b_X6_apply_22 (h := fun _ => Z2) (hw6_r0 := hwb) (h_2 := fun _ _ => Z2) (h_3 := fun _ _ _ => Z2) (hc_drawFromAts := fun c _ _ => absurd (le_r _) c)
        · refine ihm (r + 1) (by omega) (rnd (p 60) s) f3 fr3 u3 I3 ?_ (by omega) e5 (nI s.2.1) (fun c => stop (Or.inr ?_))
          · exact Bool.not_eq_true _ |>.mp (fun z => stop (Or.inl z))
          · exact (nI_eq (by omega) (by omega)).mp c
  refine L 100 0 rfl (p, 0, false) _ (fun z hz j => by rw [u2_x (by omega), u2_x (by omega)]; exact r1 z (by omega) j) ⟨r2.fr (fun z h1 h2 j => by rw [u2_x (by omega), u2_x (by omega)]), by rw [u2_k (by omega), u2_s]; rfl, by rw [u2_s]; rfl⟩ (Iv_0 p) rfl (by decide) rfl (-1) (by show ¬ nI 0 = -1; decide)
end P36
