theorem okP_um {p : Nat → Nat} {i n : Nat} (hp : okP p) (hi : i < p 60) (hn : n ≤ 1) : okP (upd1 p i n) := by
  have h6 := hp.1
  have e : ∀ k, k ≠ i → upd1 p i n k = p k := fun k hk => upd1_n hk
  refine ⟨by rw [e 60 (by omega)]; exact h6, fun k hk => ?_, fun v k hv hk => by rw [e _ (by omega)]; exact hp.2.2.1 v k hv hk, fun k j hk hj => by rw [e _ (by omega)]; exact hp.2.2.2.1 k j hk hj, fun k h1 h2 => ?_⟩
  · by_cases q : k = i
    · rw [q, upd1_s]; exact hn
    · rw [e k q]; exact hp.2.1 k hk
  · rw [e 60 (by omega)] at h1
    have h := hp.2.2.2.2 k h1 h2
    exact ⟨by rw [e k (by omega)]; exact h.1, fun v hv => by rw [e _ (by omega)]; exact h.2.1 v hv, fun j hj => by rw [e _ (by omega), e _ (by omega)]; exact h.2.2 j hj⟩
theorem okP_uA {p : Nat → Nat} {v i n : Nat} (hp : okP p) (hv : v < 3) (hi : i < p 60) (hn : n ≤ 2) : okP (upd1 p (6 + 6 * v + i) n) := by
  have h6 := hp.1
  have e : ∀ k, k ≠ 6 + 6 * v + i → upd1 p (6 + 6 * v + i) n k = p k := fun k hk => upd1_n hk
  refine ⟨by rw [e 60 (by omega)]; exact h6, fun k hk => by rw [e k (by omega)]; exact hp.2.1 k hk, fun w k hw hk => ?_, fun k j hk hj => by rw [e _ (by omega)]; exact hp.2.2.2.1 k j hk hj, fun k h1 h2 => ?_⟩
  · by_cases q : 6 + 6 * w + k = 6 + 6 * v + i
    · rw [q, upd1_s]; exact hn
    · rw [e _ q]; exact hp.2.2.1 w k hw hk
  · rw [e 60 (by omega)] at h1
    have h := hp.2.2.2.2 k h1 h2
    exact ⟨by rw [e k (by omega)]; exact h.1, fun w hw => by rw [e _ (by omega)]; exact h.2.1 w hw, fun j hj => by rw [e _ (by omega), e _ (by omega)]; exact h.2.2 j hj⟩
theorem okP_uN {p : Nat → Nat} {i j n : Nat} (hp : okP p) (hi : i < p 60) (hj : j < p 60) (hn : n ≤ 2) : okP (upd1 p (24 + 6 * i + j) n) := by
  have h6 := hp.1
  have e : ∀ k, k ≠ 24 + 6 * i + j → upd1 p (24 + 6 * i + j) n k = p k := fun k hk => upd1_n hk
  refine ⟨by rw [e 60 (by omega)]; exact h6, fun k hk => by rw [e k (by omega)]; exact hp.2.1 k hk, fun w k hw hk => by rw [e _ (by omega)]; exact hp.2.2.1 w k hw hk, fun k r hk hr => ?_, fun k h1 h2 => ?_⟩
  · by_cases q : 24 + 6 * k + r = 24 + 6 * i + j
    · rw [q, upd1_s]; exact hn
    · rw [e _ q]; exact hp.2.2.2.1 k r hk hr
  · rw [e 60 (by omega)] at h1
    have h := hp.2.2.2.2 k h1 h2
    exact ⟨by rw [e k (by omega)]; exact h.1, fun w hw => by rw [e _ (by omega)]; exact h.2.1 w hw, fun r hr => by rw [e _ (by omega), e _ (by omega)]; exact h.2.2 r hr⟩
theorem ok_add {σ : aS} {m : Nat} (h : OKs σ) : OKs (N_add σ m) := by
  unfold N_add
  split
  · rename_i q; exact h.pg (okP_app h.1 q.2 q.1)
  · exact h
theorem ok_lose {σ : aS} {i : Nat} (h : OKs σ) : OKs (N_lose σ i) := by
  unfold N_lose
  split
  · rename_i q; exact h.pg (okP_los h.1 q)
  · exact h
theorem ok_bec {σ : aS} {c : Bool} {k n : Nat} (h : OKs σ) (hp : c = true → okP (upd1 (σ 0) k n)) : OKs (N_bec σ c k n) := by
  unfold N_bec
  split
  · rename_i q; exact h.pg (hp q)
  · exact h
theorem ok_many {σ : aS} {i on : Nat} (h : OKs σ) : OKs (N_bec σ (k_many σ i on) i on) := ok_bec h (fun q => by
  unfold k_many at q
  rw [Bool.and_eq_true, decide_eq_true_iff, decide_eq_true_iff] at q
  exact okP_um h.1 q.1 q.2)
theorem ok_place {σ : aS} {v i tr : Nat} (h : OKs σ) : OKs (N_bec σ (k_place σ v i tr) (6 + 6 * v + i) tr) := ok_bec h (fun q => by
  unfold k_place at q
  rw [Bool.and_eq_true, Bool.and_eq_true, decide_eq_true_iff, decide_eq_true_iff, decide_eq_true_iff] at q
  exact okP_uA h.1 q.1 q.2.1 q.2.2)
theorem ok_lead {σ : aS} {i j tr : Nat} (h : OKs σ) : OKs (N_bec σ (k_lead σ i j tr) (24 + 6 * i + j) tr) := ok_bec h (fun q => by
  unfold k_lead at q
  rw [Bool.and_eq_true, Bool.and_eq_true, decide_eq_true_iff, decide_eq_true_iff, decide_eq_true_iff] at q
  exact okP_uN h.1 q.1 q.2.1 q.2.2)
theorem ok_deed {σ : aS} {k v w : Nat} (h : OKs σ) : OKs (N_deed σ k v w) := h.pg (okP_deed h.1)
theorem ok_fold {σ : aS} {md : Nat} (h : OKs σ) : OKs (N_fold σ md) := by
  unfold N_fold
  split
  · exact h.pg (okP_fold h.1 md)
  · exact h
theorem ok_sharpen {σ : aS} (h : OKs σ) : OKs (N_sharpen σ) := h.pg (okP_sh h.1)
theorem ok_split {σ : aS} {v k : Nat} (h : OKs σ) : OKs (N_split σ v k) := by
  unfold N_split
  split
  · rename_i q; exact h.pg (okP_spl h.1 q)
  · exact h
theorem ok_run {σ : aS} {s n : Nat} (h : OKs σ) : OKs (N_run σ s n) := by
  unfold N_run
  split
  · exact h.pg (rn_ok _ _ _ h.1)
  · exact h
theorem OKs.tape {σ : aS} {n : Nat} {T : Nat → Nat} (h : OKs σ) (hn : n ≤ 320) (hT : ∀ i, i < n → T i ≤ 127) : OKs (T_set σ n T) := by
  obtain ⟨h1, h2, h3, h4, h5, h6⟩ := h
  refine ⟨h1, fun k hk => ?_, h3, ⟨hn, hT⟩, h5, h6⟩
  have e : T_set σ n T (1 + k) = σ (1 + k) := by unfold T_set; rw [us_n (by omega), us_n (by omega)]
  rw [e]; exact h2 k hk
theorem ok_feed {σ : aS} {c : Nat} (h : OKs σ) : OKs (N_feed σ c) := by
  unfold N_feed
  split
  · rename_i q
    refine h.tape (by omega) (fun i hi => ?_)
    by_cases z : i = σ 5 1
    · rw [z, upd1_s]; exact q.1
    · rw [upd1_n z]; exact h.2.2.2.1.2 i (by omega)
  · exact h
theorem ok_end {σ : aS} {n : Nat} (h : OKs σ) : OKs (N_end σ n) := by
  unfold N_end
  split
  · rename_i q
    have := h.2.2.2.1.1
    exact h.tape (by omega) (fun i hi => h.2.2.2.1.2 i (by omega))
  · exact h
theorem ok_keep {σ : aS} {k : Nat} (h : OKs σ) : OKs (N_keep σ k) := by
  unfold N_keep
  split
  · rename_i q
    obtain ⟨h1, h2, h3, h4, h5, h6⟩ := h
    have e : ∀ r, r ≠ 1 + k → r ≠ 3 → I_set σ k (σ 0) r = σ r := fun r a b => by unfold I_set; rw [us_n b, us_n a]
    have e3 : I_set σ k (σ 0) 3 = upd1 (σ 3) k 1 := by unfold I_set; rw [us_s]
    unfold OKs okFm
    rw [e 0 (by omega) (by omega), e 4 (by omega) (by omega), e 5 (by omega) (by omega), e 6 (by omega) (by omega), e 7 (by omega) (by omega), e 8 (by omega) (by omega), e 9 (by omega) (by omega), e3]
    refine ⟨h1, fun i hi => ?_, h3, h4, h5, h6⟩
    by_cases c : i = k
    · subst c
      have e1 : I_set σ i (σ 0) (1 + i) = σ 0 := by unfold I_set; rw [us_n (by omega), us_s]
      rw [e1, upd1_s]
      exact ⟨h1, Nat.le_refl _⟩
    · rw [e (1 + i) (by omega) (by omega), upd1_n c]; exact h2 i hi
  · exact h
theorem ok_back {σ : aS} {k : Nat} (h : OKs σ) : OKs (N_back σ k) := by
  unfold N_back
  split
  · rename_i q; exact h.pg (h.2.1 k q.1).1
  · exact h
theorem ok_sheet {σ : aS} {k L n : Nat} (h : OKs σ) : OKs (N_sheet σ k L n) := by
  unfold N_sheet
  split
  · rename_i q
    obtain ⟨h1, h2, h3, h4, h5, h6⟩ := h
    refine ⟨h1, fun r hr => ?_, h3, h4, fun r hr => ?_, fun i hi => ?_⟩
    · have e : ∀ g, S_set σ k L n g (1 + r) = σ (1 + r) := fun g => by unfold S_set; rw [us_n (by omega), us_n (by omega), us_n (by omega)]
      rw [e]; exact h2 r hr
    · show upd1 (σ 7) k L r ≤ 3 ∧ upd1 (σ 8) k n r ≤ 40
      by_cases c : r = k
      · rw [c, upd1_s, upd1_s]; omega
      · rw [upd1_n c, upd1_n c]; exact h5 r hr
    · show (if 40 * k ≤ i ∧ i < 40 * k + 40 then 0 else σ 9 i) < 2 ^ 32
      split
      · decide
      · exact h6 i hi
  · exact h
theorem ok_lay {σ : aS} {k i v : Nat} (h : OKs σ) : OKs (N_lay σ k i v) := by
  unfold N_lay
  split
  · obtain ⟨h1, h2, h3, h4, h5, h6⟩ := h
    refine ⟨h1, fun r hr => ?_, h3, h4, h5, fun j hj => ?_⟩
    · rw [us_n (by omega)]; exact h2 r hr
    · show upd1 (σ 9) (40 * k + i) (narN (σ 7 k) v) j < 2 ^ 32
      by_cases c : j = 40 * k + i
      · rw [c, upd1_s]; exact narN_lt _ _
      · rw [upd1_n c]; exact h6 j hj
  · exact h
theorem OKs.flt {σ : aS} {n : Nat} (h : OKs σ) : OKs (us σ 5 (upd1 (σ 5) 3 n)) := by
  obtain ⟨h1, h2, h3, h4, h5, h6⟩ := h
  exact ⟨h1, fun k hk => by rw [us_n (by omega)]; exact h2 k hk, h3, h4, h5, h6⟩
theorem rdL_ok {σ : aS} {k L fr : Nat} (h : OKs σ) : ∀ (m i : Nat) (p : Nat → Nat), okP p → okP (rdL σ k L fr m i p).1 := by
  intro m
  induction m with
  | zero => intro i p hp; exact hp
  | succ m ih =>
    intro i p hp
    rw [rdL_s]
    split
    · split
      · exact h.1
      · exact ih _ _ (okP_deed hp)
    · exact hp
theorem ok_read {σ : aS} {k L fr n : Nat} (h : OKs σ) : OKs (N_read σ k L fr n) := by
  unfold N_read
  split
  · exact (h.pg (rdL_ok h n 0 (σ 0) h.1)).flt
  · exact h
