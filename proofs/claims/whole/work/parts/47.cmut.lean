def N_pg (σ : aS) (c : Prop) [Decidable c] (q : Nat → Nat) : aS := if c then us σ 0 q else σ
def R_add (σ : aS) (m : Nat) : Int32 := if m ≤ 1 then (if σ 0 60 < 6 then nI (σ 0 60 + 1) else -3) else -1
def N_add (σ : aS) (m : Nat) : aS := if m ≤ 1 ∧ σ 0 60 < 6 then us σ 0 (app (σ 0) m) else σ
def R_lose (σ : aS) (i : Nat) : Int32 := if i < σ 0 60 then nI (σ 0 60 - 1) else -1
def N_lose (σ : aS) (i : Nat) : aS := if i < σ 0 60 then us σ 0 (los (σ 0) i) else σ
def R_bec (σ : aS) (c : Bool) (k : Nat) : Int32 := if c = true then nI (σ 0 k) else -1
def N_bec (σ : aS) (c : Bool) (k n : Nat) : aS := if c = true then us σ 0 (upd1 (σ 0) k n) else σ
def k_many (σ : aS) (i on : Nat) : Bool := decide (i < σ 0 60) && decide (on ≤ 1)
def k_place (σ : aS) (v i tr : Nat) : Bool := decide (v < 3) && (decide (i < σ 0 60) && decide (tr ≤ 2))
def k_lead (σ : aS) (i j tr : Nat) : Bool := decide (i < σ 0 60) && (decide (j < σ 0 60) && decide (tr ≤ 2))
def R_deed (σ : aS) (k v w : Nat) : Int32 := deedA (σ 0) k v w
def N_deed (σ : aS) (k v w : Nat) : aS := us σ 0 (deedP (σ 0) k v w)
def R_fold (σ : aS) (md : Nat) : Int32 := if md ≤ 1 then nI (gc (σ 0) md (σ 0 60)) else -1
def N_fold (σ : aS) (md : Nat) : aS := if md ≤ 1 then us σ 0 (foldP (σ 0) md) else σ
def R_sharpen (σ : aS) : Int32 := shA (σ 0)
def N_sharpen (σ : aS) : aS := us σ 0 (shQ (σ 0))
def R_ways (σ : aS) (v : Nat) : Int32 := if v < 3 then nI (wc (σ 0) v (σ 0 60)) else -1
def R_split (σ : aS) (v k : Nat) : Int32 := if v < 3 then splA (σ 0) v k else -1
def N_split (σ : aS) (v k : Nat) : aS := if v < 3 then us σ 0 (splQ (σ 0) v k) else σ
theorem Sh_app {f : Nat → Nat → Int32} {a m : Nat} {p : Nat → Nat} (h : Sh f a p) (hn : p 60 < 6) : Sh (u2 (u2 f (a + 1) (p 60) (nI m)) a 0 (nI (p 60 + 1))) a (app p m) := by
  refine ⟨by rw [u2_s, app_60], fun i hi => ?_, fun v i hv hi => ?_, fun i j hi hj => ?_⟩
  · by_cases q : i = p 60
    · rw [u2_x (by omega), q, u2_s, app_n hn]
    · rw [u2_x (by omega), u2_k q, app_ne (by omega) q]; exact h.2.1 i hi
  · rw [u2_x (by omega), u2_x (by omega), app_ne (by omega) (by omega)]; exact h.2.2.1 v i hv hi
  · rw [u2_x (by omega), u2_x (by omega), app_ne (by omega) (by omega)]; exact h.2.2.2 i j hi hj
section P47
variable {X : cX} {d : Nat} {μ : mM} {K : Option Value → mM → Prop} {f : Nat → Nat → Int32} {x t u y : Nat} {σ : aS}
/-- after a call about the shape -/
theorem CI.np {g : Nat → Nat → Int32} {q : Nat → Nat} (h : CI f x t σ) (hW : WC μ x t u) (hO : OKs σ) (hf : FrC f g x t) (hs : Sh g (t + 1) q) : Fr f g x 260 ∧ CI g x t (us σ 0 q) := ⟨hf.out hW.t2, h.pg hf.toI hW.t2 hs hO.2.2.1.1⟩
theorem FrC.sh13 {g : Nat → Nat → Int32} (h : ∀ z, (z < t + 1 ∨ t + 1 + 13 ≤ z) → ∀ j, g z j = f z j) : FrC f g x t := fun z a _ _ j => h z (by omega) j
theorem C_add {m : Nat} (hW : WC μ x t u) (hC : CI f x t σ) (hO : OKs σ) (hm : m < 2 ^ 32) (hK : ∀ f', Fr f f' x 260 → CI f' x t (N_add σ m) → K (some (.int (R_add σ m))) (sI μ f')) : Ct X (Rm (d + 1)) mX11_add [.ref x, .int (nI m)] (sI μ f) K := by
  have hp := hO.1
  have h5 := hW.wt.2.1
  have e1 := isSw (μ := sI μ f) hm
  have e2 := full5 (μ := μ) hC.1 hp
  have em : (nI m = (1 : Int32)) ↔ m = 1 := nI_eqU (b := 1) hm (by decide)
  have A : m ≤ 1 → σ 0 60 < 6 → G X (Rm (d + 1)) mX11_add 42 [(0, .ref x)] [.int (nI m), .ref (t + 1)] (sI μ f) 0 0 K := fun a b => by
    refine b_X11_add_42 h5 (c_append h5 hC.1.1 b a (b_X11_add_45 (p0 := t) hW.w11 hW.rt hW.wt.1 h5 ?_))
    have s1 := Sh_app (m := m) hC.1 b
    have r := hC.np (g := u2 (u2 f (t + 1 + 1) (σ 0 60) (nI m)) (t + 1) 0 (nI (σ 0 60 + 1))) hW hO (FrC.sh13 (fun z hz j => by rw [u2_x (by omega), u2_x (by omega)])) s1
    have k := hK _ r.1
    unfold N_add R_add at k
    rw [if_pos ⟨a, b⟩, if_pos a, if_pos b] at k
    rw [iv_sI, u2_s]
    exact k r.2
  have BAD : ¬ (m ≤ 1 ∧ σ 0 60 < 6) → K (some (.int (R_add σ m))) (sI μ f) := fun q => by
    have k := hK f (Fr.rf _ _ _)
    unfold N_add at k
    rw [if_neg q] at k
    exact k hC
  refine Ct_of rfl (Nat.le_of_ble_eq_true rfl) (b_X11_add_0 (p0 := t) (hw11_r0 := hW.w11) (hr_p0 := hW.rt) (hw10_p0 := hW.wt.1) (hw5_p01 := h5) (h := fun c1 c2 c3 => ?_) (h_2 := fun c1 c2 c3 => ?_) (hK := fun c1 c2 => ?_) (hK_2 := fun c1 => ?_))
  · rw [e1] at c1; rw [em] at c3
    have z : m = 0 := by omega
    have := A (by omega) (e2.mp c2)
    rw [z] at this; exact this
  · rw [e1] at c1; rw [em] at c3
    have := A (by omega) (e2.mp c2)
    rw [c3] at this; exact this
  · rw [e1] at c1; rw [e2] at c2
    have := BAD (fun z => c2 z.2)
    unfold R_add at this
    rw [if_pos (by omega), if_neg c2] at this
    exact this
  · rw [e1] at c1
    have := BAD (fun z => c1 z.1)
    unfold R_add at this
    rw [if_neg c1] at this
    exact this
theorem C_lose {i : Nat} (hW : WC μ x t u) (hC : CI f x t σ) (hO : OKs σ) (hi : i < 2 ^ 32) (hK : ∀ f', Fr f f' x 260 → CI f' x t (N_lose σ i) → K (some (.int (R_lose σ i))) (sI μ f')) : Ct X (Rm (d + 3)) mX11_lose [.ref x, .int (nI i)] (sI μ f) K := by
  have hp := hO.1
  have h5 := hW.wt.2.1
  have hh := e_has (μ := μ) (p := σ 0) hC.1.1 hp.1 hi
  refine Ct_of rfl (Nat.le_of_ble_eq_true rfl) (b_X11_lose_0 (p0 := t) (hw11_r0 := hW.w11) (hr_p0 := hW.rt) (hw10_p0 := hW.wt.1) (hw5_p01 := h5) (hc_drop := fun c => ?_) (hK := fun c => ?_))
  · have z : i < σ 0 60 := Decidable.byContradiction fun z => c (hh.mpr z)
    refine c_drop h5 hC.1 hp z (fun g r1 r2 => b_X11_lose_27 (p0 := t) hW.w11 hW.rt hW.wt.1 h5 ?_)
    have r := hC.np hW hO (FrC.sh13 r1) r2
    have k := hK _ r.1
    unfold N_lose R_lose at k
    rw [if_pos z, if_pos z] at k
    rw [iv_sI, r2.1]
    exact k r.2
  · rw [hh] at c
    have k := hK f (Fr.rf _ _ _)
    unfold N_lose R_lose at k
    rw [if_neg c, if_neg c] at k
    exact k hC
theorem R_bec_t {c : Bool} {k : Nat} (h : c = true) : R_bec σ c k = nI (σ 0 k) := if_pos h
theorem C_bad {c : Bool} {k n : Nat} (hC : CI f x t σ) (h : ¬ c = true) (hK : ∀ f', Fr f f' x 260 → CI f' x t (N_bec σ c k n) → K (some (.int (R_bec σ c k))) (sI μ f')) : K (some (.int (-1))) (sI μ f) := by
  have k := hK f (Fr.rf _ _ _)
  unfold N_bec R_bec at k
  rw [if_neg h, if_neg h] at k
  exact k hC
theorem C_good {c : Bool} {k n : Nat} {g : Nat → Nat → Int32} (hW : WC μ x t u) (hO : OKs σ) (hC : CI f x t σ) (h : c = true) (hf : FrC f g x t) (hs : Sh g (t + 1) (upd1 (σ 0) k n)) (hK : ∀ f', Fr f f' x 260 → CI f' x t (N_bec σ c k n) → K (some (.int (R_bec σ c k))) (sI μ f')) : K (some (.int (nI (σ 0 k)))) (sI μ g) := by
  have r := hC.np hW hO hf hs
  have k := hK g r.1
  unfold N_bec R_bec at k
  rw [if_pos h, if_pos h] at k
  exact k r.2
theorem FrC.u2 {z0 k : Nat} {v : Int32} (h1 : t + 1 ≤ z0) (h2 : z0 < t + 14) : FrC f (u2 f z0 k v) x t := FrC.sh13 (fun z hz j => u2_x (by omega))
theorem C_many {i on : Nat} (hW : WC μ x t u) (hC : CI f x t σ) (hO : OKs σ) (hi : i < 2 ^ 32) (hon : on < 2 ^ 32) (hK : ∀ f', Fr f f' x 260 → CI f' x t (N_bec σ (k_many σ i on) i on) → K (some (.int (R_bec σ (k_many σ i on) i))) (sI μ f')) : Ct X (Rm (d + 1)) mX11_many [.ref x, .int (nI i), .int (nI on)] (sI μ f) K := by
  have hp := hO.1
  have h5 := hW.wt.2.1
  have hh := e_has (μ := μ) (p := σ 0) hC.1.1 hp.1 hi
  have e1 := isSw (μ := sI μ f) hon
  have h6 := hp.1
  have hkb : k_many σ i on = true ↔ i < σ 0 60 ∧ on ≤ 1 := by unfold k_many; rw [Bool.and_eq_true, decide_eq_true_iff, decide_eq_true_iff]
  have em : (nI on = (1 : Int32)) ↔ on = 1 := nI_eqU (b := 1) hon (by decide)
  have A : i < σ 0 60 → on ≤ 1 → G X (Rm (d + 1)) mX11_many 43 [(0, .ref x), (1, .int (nI i)), (2, .int (nI on))] [.int (nI (σ 0 i))] (sI μ f) 0 0 K := fun a b => by
    have g1 := C_good (g := u2 f (t + 1 + 1) i (nI on)) hW hO hC (hkb.mpr ⟨a, b⟩) (FrC.u2 (by omega) (by omega)) (hC.1.um (by omega)) hK
    refine b_X11_many_43 (p0 := t) (hw11_r0 := hW.w11) (hr_p0 := hW.rt) (hw10_p0 := hW.wt.1) (hw5_p01 := h5) (hb := fun _ => by omega) (hK := fun c => ?_) (hb_2 := fun _ => by omega) (hK_2 := fun c => ?_)
    · rw [em] at c
      rw [show on = 0 by omega] at g1; exact g1
    · rw [em] at c
      rw [c] at g1; exact g1
  have has : ¬ e_X5_has (sI μ f) (t + 1) (nI i) = 0 → i < σ 0 60 := fun c => Decidable.byContradiction fun z => c (hh.mpr z)
  refine Ct_of rfl (Nat.le_of_ble_eq_true rfl) (b_X11_many_0 (p0 := t) (hw11_r0 := hW.w11) (hr_p0 := hW.rt) (hw10_p0 := hW.wt.1) (hw5_p01 := h5) (hK := fun c => C_bad hC (fun z => (hh.mp c) (hkb.mp z).1) hK) (hb := fun c _ => by have := has c; omega) (h := fun c1 c2 c3 => ?_) (h_2 := fun c1 c2 c3 => ?_) (hK_2 := fun _ c => C_bad hC (fun z => (e1.mp c) (hkb.mp z).2) hK))
  · have z := has c1
    rw [e1] at c2
    rw [iv_sI, hC.1.2.1 i (by omega), nI_z (by have := hp.2.1 i (by omega); omega)] at c3
    have := A z (by omega)
    rw [c3] at this; exact this
  · have z := has c1
    have l := hp.2.1 i (by omega)
    rw [e1] at c2
    rw [iv_sI, hC.1.2.1 i (by omega), nI_z (by omega)] at c3
    have := A z (by omega)
    rw [show σ 0 i = 1 by omega] at this; exact this
theorem C_place {v i tr : Nat} (hW : WC μ x t u) (hC : CI f x t σ) (hO : OKs σ) (hv : v < 2 ^ 32) (hi : i < 2 ^ 32) (htr : tr < 2 ^ 32) (hK : ∀ f', Fr f f' x 260 → CI f' x t (N_bec σ (k_place σ v i tr) (6 + 6 * v + i) tr) → K (some (.int (R_bec σ (k_place σ v i tr) (6 + 6 * v + i)))) (sI μ f')) : Ct X (Rm (d + 1)) mX11_place [.ref x, .int (nI v), .int (nI i), .int (nI tr)] (sI μ f) K := by
  have hp := hO.1
  have h5 := hW.wt.2.1
  have hh := e_has (μ := μ) (p := σ 0) hC.1.1 hp.1 hi
  have e1 := isTr (μ := sI μ f) htr
  have ev := c_isV (μ := sI μ f) hv
  have h6 := hp.1
  have hkb : k_place σ v i tr = true ↔ v < 3 ∧ i < σ 0 60 ∧ tr ≤ 2 := by unfold k_place; rw [Bool.and_eq_true, Bool.and_eq_true, decide_eq_true_iff, decide_eq_true_iff, decide_eq_true_iff]
  have has : ¬ e_X5_has (sI μ f) (t + 1) (nI i) = 0 → i < σ 0 60 := fun c => Decidable.byContradiction fun z => c (hh.mpr z)
  have hvs : ¬ e_X11_isVariable (sI μ f) (nI v) = 0 → v < 3 := fun c => Decidable.byContradiction fun z => c (ev.mpr z)
  refine Ct_of rfl (Nat.le_of_ble_eq_true rfl) (b_X11_place_0 (p0 := t) (hK := fun c => C_bad hC (fun z => (ev.mp c) (hkb.mp z).1) hK) (hw11_r0 := hW.w11) (hr_p0 := hW.rt) (hw10_p0 := hW.wt.1) (hw5_p01 := h5) (hK_2 := fun _ c => C_bad hC (fun z => (hh.mp c) (hkb.mp z).2.1) hK) (hb := fun c _ _ => hvs c) (hb_2 := fun _ c _ => by have := has c; omega) (hK_3 := fun c1 c2 c3 => ?_) (hK_4 := fun _ _ c => C_bad hC (fun z => (e1.mp c) (hkb.mp z).2.2) hK))
  have z1 := hvs c1
  have z2 := has c2
  have z3 : tr ≤ 2 := Decidable.byContradiction fun z => c3 (e1.mpr z)
  rw [iv_sI, hC.1.2.2.1 v i z1 (by omega)]
  exact C_good (g := u2 f (t + 1 + 3 + v) i (nI tr)) hW hO hC (hkb.mpr ⟨z1, z2, z3⟩) (FrC.u2 (by omega) (by omega)) (hC.1.uA z1 (by omega)) hK
theorem C_lead {i j tr : Nat} (hW : WC μ x t u) (hC : CI f x t σ) (hO : OKs σ) (hi : i < 2 ^ 32) (hj : j < 2 ^ 32) (htr : tr < 2 ^ 32) (hK : ∀ f', Fr f f' x 260 → CI f' x t (N_bec σ (k_lead σ i j tr) (24 + 6 * i + j) tr) → K (some (.int (R_bec σ (k_lead σ i j tr) (24 + 6 * i + j)))) (sI μ f')) : Ct X (Rm (d + 1)) mX11_lead [.ref x, .int (nI i), .int (nI j), .int (nI tr)] (sI μ f) K := by
  have hp := hO.1
  have h5 := hW.wt.2.1
  have hh := e_has (μ := μ) (p := σ 0) hC.1.1 hp.1 hi
  have hh2 := e_has (μ := μ) (p := σ 0) hC.1.1 hp.1 hj
  have e1 := isTr (μ := sI μ f) htr
  have h6 := hp.1
  have hkb : k_lead σ i j tr = true ↔ i < σ 0 60 ∧ j < σ 0 60 ∧ tr ≤ 2 := by unfold k_lead; rw [Bool.and_eq_true, Bool.and_eq_true, decide_eq_true_iff, decide_eq_true_iff, decide_eq_true_iff]
  have has : ¬ e_X5_has (sI μ f) (t + 1) (nI i) = 0 → i < σ 0 60 := fun c => Decidable.byContradiction fun z => c (hh.mpr z)
  have has2 : ¬ e_X5_has (sI μ f) (t + 1) (nI j) = 0 → j < σ 0 60 := fun c => Decidable.byContradiction fun z => c (hh2.mpr z)
  refine Ct_of rfl (Nat.le_of_ble_eq_true rfl) (b_X11_lead_0 (p0 := t) (hw11_r0 := hW.w11) (hr_p0 := hW.rt) (hw10_p0 := hW.wt.1) (hw5_p01 := h5) (hK := fun c => C_bad hC (fun z => (hh.mp c) (hkb.mp z).1) hK) (hK_2 := fun _ c => C_bad hC (fun z => (hh2.mp c) (hkb.mp z).2.1) hK) (hb := fun c _ _ => by have := has c; omega) (hb_2 := fun _ c _ => by have := has2 c; omega) (hK_3 := fun c1 c2 c3 => ?_) (hK_4 := fun _ _ c => C_bad hC (fun z => (e1.mp c) (hkb.mp z).2.2) hK))
  have z1 := has c1
  have z2 := has2 c2
  have z3 : tr ≤ 2 := Decidable.byContradiction fun z => c3 (e1.mpr z)
  rw [iv_sI, hC.1.2.2.2 i j (by omega) (by omega)]
  exact C_good (g := u2 f (t + 1 + 7 + i) j (nI tr)) hW hO hC (hkb.mpr ⟨z1, z2, z3⟩) (FrC.u2 (by omega) (by omega)) (hC.1.uN (by omega) (by omega)) hK
theorem C_deed {k v w : Nat} (hW : WC μ x t u) (hC : CI f x t σ) (hO : OKs σ) (hk : k < 2 ^ 32) (hv : v < 2 ^ 32) (hw : w < 2 ^ 32) (hK : ∀ f', Fr f f' x 260 → CI f' x t (N_deed σ k v w) → K (some (.int (R_deed σ k v w))) (sI μ f')) : Ct X (Rm (d + 4)) mX11_deed [.ref x, .int (nI k), .int (nI v), .int (nI w)] (sI μ f) K := by
  have t2 := hW.t2
  refine Ct_of rfl (Nat.le_of_ble_eq_true rfl) (b_X11_deed_0 (p0 := t) hW.w11 hW.rt hW.wt.1 hW.w1 (c_perform hW.wt.2.1 hW.w1 (by omega) hC.1 hO.1 hk hv hw (fun g r1 r2 => b_X11_deed_17 ?_)))
  have r := hC.np (g := g) hW hO (fun z a b c j => r1 z (by omega) (by omega) j) r2
  exact hK g r.1 r.2
theorem C_fold {md : Nat} (hW : WC μ x t u) (hC : CI f x t σ) (hO : OKs σ) (hmd : md < 2 ^ 32) (hK : ∀ f', Fr f f' x 260 → CI f' x t (N_fold σ md) → K (some (.int (R_fold σ md))) (sI μ f')) : Ct X (Rm (d + 4)) mX11_fold [.ref x, .int (nI md)] (sI μ f) K := by
  have t2 := hW.t2
  have h5 := hW.wt.2.1
  have e1 := isSw (μ := sI μ f) hmd
  have em : (nI md = (1 : Int32)) ↔ md = 1 := nI_eqU (b := 1) hmd (by decide)
  have A : md ≤ 1 → G X (Rm (d + 4)) mX11_fold 30 [(0, .ref x)] [.int (nI md), .ref (t + 1), .ref (x + 149)] (sI μ f) 0 0 K := fun a => by
    refine b_X11_fold_30 hW.w2.1 (c_fold h5 hW.w2.1 hW.w2.2 (by omega) hC.1 hO.1 a (fun g r1 r2 => b_X11_fold_33 (p0 := t) hW.w11 hW.rt hW.wt.1 h5 ?_))
    have r := hC.np (g := g) hW hO (fun z a b c j => r1 z (by omega) (by omega) j) r2
    have k := hK g r.1
    unfold N_fold R_fold at k
    rw [if_pos a, if_pos a] at k
    rw [iv_sI, r2.1]
    exact k r.2
  refine Ct_of rfl (Nat.le_of_ble_eq_true rfl) (b_X11_fold_0 (p0 := t) (hw11_r0 := hW.w11) (hr_p0 := hW.rt) (hw10_p0 := hW.wt.1) (h := fun c1 c2 => ?_) (h_2 := fun c1 c2 => ?_) (hK := fun c => ?_))
  · rw [e1] at c1; rw [em] at c2
    have := A (by omega)
    rw [show md = 0 by omega] at this; exact this
  · rw [em] at c2
    have := A (by omega)
    rw [c2] at this; exact this
  · rw [e1] at c
    have k := hK f (Fr.rf _ _ _)
    unfold N_fold R_fold at k
    rw [if_neg c, if_neg c] at k
    exact k hC
theorem C_sharpen (hW : WC μ x t u) (hC : CI f x t σ) (hO : OKs σ) (hK : ∀ f', Fr f f' x 260 → CI f' x t (N_sharpen σ) → K (some (.int (R_sharpen σ))) (sI μ f')) : Ct X (Rm (d + 3)) mX11_sharpen [.ref x] (sI μ f) K := by
  have t2 := hW.t2
  refine Ct_of rfl (Nat.le_of_ble_eq_true rfl) (b_X11_sharpen_0 (p0 := t) hW.w11 hW.rt hW.wt.1 hW.w6.1 (c_sharpen hW.wt.2.1 hW.w6.1 hW.w6.2 (by omega) hC.1 hO.1 (fun g r1 r2 => b_X11_sharpen_14 ?_)))
  have r := hC.np (g := g) hW hO (fun z a b c j => r1 z (by omega) (by omega) j) r2
  exact hK g r.1 r.2
theorem C_ways {v : Nat} (hW : WC μ x t u) (hC : CI f x t σ) (hO : OKs σ) (hv : v < 2 ^ 32) (hK : ∀ f', Fr f f' x 260 → CI f' x t σ → K (some (.int (R_ways σ v))) (sI μ f')) : Ct X (Rm (d + 4)) mX11_ways [.ref x, .int (nI v)] (sI μ f) K := by
  have t2 := hW.t2
  have ev := c_isV (μ := sI μ f) hv
  refine Ct_of rfl (Nat.le_of_ble_eq_true rfl) (b_X11_ways_0 (p0 := t) (hK := fun c => ?_) (hw11_r0 := hW.w11) (hr_p0 := hW.rt) (hw10_p0 := hW.wt.1) (hw8_r0200 := hW.w8) (hc_number := fun c => ?_))
  · have k := hK f (Fr.rf _ _ _) hC
    unfold R_ways at k
    rw [if_neg (ev.mp c)] at k
    exact k
  · have z : v < 3 := Decidable.byContradiction fun z => c (ev.mpr z)
    refine c_ways hW.wt.2.1 hW.w8 (by omega) hC.1 hO.1 z (fun g r1 => b_X11_ways_22 ?_)
    have fc : FrC f g x t := fun z a b c j => r1 z (by omega) j
    have sf : Sh g (t + 1) (σ 0) := hC.1.fr (fun z h1 h2 j => r1 z (by omega) j)
    have k := hK g (fc.out t2) (hC.same fc.toI t2 sf hO.2.2.1.1)
    unfold R_ways at k
    rw [if_pos z] at k
    exact k
theorem C_split {v k : Nat} (hW : WC μ x t u) (hC : CI f x t σ) (hO : OKs σ) (hv : v < 2 ^ 32) (hk : k < 2 ^ 32) (hK : ∀ f', Fr f f' x 260 → CI f' x t (N_split σ v k) → K (some (.int (R_split σ v k))) (sI μ f')) : Ct X (Rm (d + 4)) mX11_split [.ref x, .int (nI v), .int (nI k)] (sI μ f) K := by
  have t2 := hW.t2
  have ev := c_isV (μ := sI μ f) hv
  refine Ct_of rfl (Nat.le_of_ble_eq_true rfl) (b_X11_split_0 (p0 := t) (hK := fun c => ?_) (hw11_r0 := hW.w11) (hr_p0 := hW.rt) (hw10_p0 := hW.wt.1) (hw8_r0200 := hW.w8) (hc_apply := fun c => ?_))
  · have k := hK f (Fr.rf _ _ _)
    unfold R_split N_split at k
    rw [if_neg (ev.mp c), if_neg (ev.mp c)] at k
    exact k hC
  · have z : v < 3 := Decidable.byContradiction fun z => c (ev.mpr z)
    refine c_split hW.wt.2.1 hW.w8 (by omega) hC.1 hO.1 z hk (fun g r1 r2 => b_X11_split_23 ?_)
    have r := hC.np (g := g) hW hO (fun z a b c j => r1 z (by omega) (by omega) j) r2
    have k := hK g r.1
    unfold R_split N_split at k
    rw [if_pos z, if_pos z] at k
    exact k r.2
end P47
