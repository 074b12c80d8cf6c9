section P69
variable {X : cX} {d : Nat} {μ : mM} {K : Option Value → mM → Prop} {f g : Nat → Nat → Int32} {y n : Nat} {T : Nat → Nat} {σ : aS}
theorem M_text (hw : WF12 μ y) (hM : MI f y σ) (hO : OKs σ) (hK : ∀ f', Fr f f' y 17 → MI f' y (N_text σ) → K (some (.int (R_text σ))) (sI μ f')) : Ct X (Rm (d + 6)) mX12_text [.ref y] (sI μ f) K := by
  obtain ⟨T, eT⟩ : ∃ T, T = σ 6 := ⟨_, rfl⟩
  obtain ⟨n, en⟩ : ∃ n, n = σ 5 1 := ⟨_, rfl⟩
  obtain ⟨M1, M2, M3, M5, M6, M7, M8, M9⟩ := hM
  have n320 : n ≤ 320 := by rw [en]; exact hO.2.2.2.1.1
  -- the end with a fault
  have EB : ∀ g e l1, pTxt T n = .error e → MU f g y → BR g y n e → G X (Rm (d + 6)) mX12_text 125 [(0, .ref y), (1, .int l1)] [] (sI μ g) 0 0 K := fun g e l1 ep mu br => by
    rw [eT, en] at ep
    have e68 : u2 g y 6 0 y 8 = nI e.1 := by rw [u2_k (by decide)]; exact br.1
    have e8 : u2 (u2 g y 6 0) y 7 (nI e.1) y 8 = nI e.1 := by rw [u2_k (by decide), u2_k (by decide)]; exact br.1
    have e9 : u2 (u2 g y 6 0) y 7 (nI e.1) y 9 = nI e.2 := by rw [u2_k (by decide), u2_k (by decide)]; exact br.2.2.1
    have b16 := br.2.1
    refine b_X12_text_125 (hw12_r0 := hw) (hc_copies := fun c => ?_) (hK := fun _ => ?_)
    · rw [wi_sI, iv_sI, e68, wi_sI, iv_sI, e8] at c
      exact absurd c (nI_nle (by omega) (by omega))
    · rw [wi_sI, iv_sI, e68, wi_sI, iv_sI, e9, ← R_text_e ep]
      have fz : ∀ z, z ≠ y → ∀ j, u2 (u2 g y 6 0) y 7 (nI e.1) z j = g z j := fun z hz j => by rw [u2_x hz, u2_x hz]
      have fy : ∀ j, j ≠ 6 → j ≠ 7 → u2 (u2 g y 6 0) y 7 (nI e.1) y j = g y j := fun j h6 h7 => by rw [u2_k h7, u2_k h6]
      refine hK _ (fun z hz j => by rw [fz z (by omega), mu.1 z (by omega) (by omega) (by omega)]) ?_
      rw [N_text_e ep]
      refine ⟨M1.fr (fun k hk => by rw [fz _ (by omega), mu.2.1 _ (by omega)]), fun k hk => ?_, ⟨?_, fun k hk => ?_⟩, ⟨?_, fun i hi => absurd hi (Nat.not_lt_zero _)⟩, ⟨?_, ?_⟩, fun k hk => ?_, fun i hi => ?_, fun i hi => ?_, fun i hi => ?_⟩
      · have e1 : tx_e σ e.1 (1 + k) = σ (1 + k) := us_n (by omega)
        rw [e1]
        exact ⟨fun i hi => by rw [fz _ (by omega), mu.2.1 _ (by omega)]; exact (M2 k hk).1 i hi, by rw [fz _ (by omega), mu.1 _ (by omega) (by omega) (by omega)]; exact (M2 k hk).2⟩
      · rw [fy _ (by decide) (by decide), mu.2.2 _ (by decide)]; exact M3.1
      · rw [fz _ (by omega), mu.1 _ (by omega) (by omega) (by omega)]; exact M3.2 k hk
      · rw [u2_k (by decide), u2_s]; rfl
      · rw [u2_s]; rfl
      · rw [fy _ (by decide) (by decide), mu.2.2 _ (by decide)]; exact M6.2
      · rw [fz _ (by omega), fz _ (by omega), mu.1 _ (by omega) (by omega) (by omega), mu.1 _ (by omega) (by omega) (by omega)]; exact M7 k hk
      · rw [fz _ (by omega), mu.1 _ (by omega) (by omega) (by omega)]; exact M8 i hi
      · rw [fz _ (by omega), mu.1 _ (by omega) (by omega) (by omega)]; exact M9.1 i hi
      · rw [fz _ (by omega), mu.1 _ (by omega) (by omega) (by omega)]; exact M9.2 i hi
  -- the good end
  have EO : ∀ g (r : Nat × pS), pTxt T n = .ok r → MU f g y → g y 8 = 0 → PB g y T n r.2.2.1 r.2.2.2.1 r.2.2.2.2.1 r.2.2.2.2.2 → G X (Rm (d + 6)) mX12_text 125 [(0, .ref y), (1, .int (nI r.1))] [] (sI μ g) 0 0 K := fun g r ep mu g8 pb => by
    rw [eT, en] at ep
    have e68 : u2 g y 6 0 y 8 = 0 := by rw [u2_k (by decide)]; exact g8
    have e8 : u2 (u2 g y 6 0) y 7 0 y 8 = 0 := by rw [u2_k (by decide), u2_k (by decide)]; exact g8
    refine b_X12_text_125 (hw12_r0 := hw) (hc_copies := fun _ => ?_) (hK := fun c => ?_)
    · rw [wi_sI, iv_sI, e68, wi_sI]
      have pg : Pg (u2 (u2 g y 6 0) y 7 0) y 183 r.2.2.1 := fun k hk => by rw [u2_x (by omega), u2_x (by omega)]; exact pb.2.2.1 k hk
      refine m_copies (P := 183) (Q := 0) hw pg (by decide) (by decide) (by decide) (fun g1 c1 c2 c3 => b_X12_text_161 ?_)
      have g1z : ∀ z, z ≠ y → z ≠ y + 1 → ∀ j, g1 z j = g z j := fun z a b j => by rw [c1 z b, u2_x a, u2_x a]
      have g1y : ∀ j, j ≠ 6 → j ≠ 7 → g1 y j = g y j := fun j h6 h7 => by rw [c1 y (by omega), u2_k h7, u2_k h6]
      have g16 : g1 y 6 = 0 := by rw [c1 y (by omega), u2_k (by decide), u2_s]
      have g17 : g1 y 7 = 0 := by rw [c1 y (by omega), u2_s]
      have g1p : ∀ k, 61 ≤ k → g1 (y + 1) k = g (y + 1) k := fun k hk => by rw [c2 k (by omega), u2_x (by omega), u2_x (by omega)]
      have H : ∀ i, i ≤ 192 → ∀ g2, (∀ z, z ≠ y + 2 → ∀ j, g2 z j = g1 z j) → (∀ k, k < i → g2 (y + 2) k = nI (r.2.2.2.1 k)) → G X (Rm (d + 6)) mX12_text 163 [(0, .ref y), (1, .int (nI r.1)), (2, .int (nI i))] [] (sI μ g2) 0 0 K := by
        refine dn 192 ?_ ?_
        · intro g2 h1 h2
          refine b_X12_text_163 (hw12_r0 := hw) (hK := fun _ => ?_) (hb := fun c => absurd (le_r _) c) (h := fun c => absurd (le_r _) c)
          rw [iv_sI, h1 y (by omega), g1y 4 (by decide) (by decide), pb.2.2.2.2.1, wi_sI, wi_sI, wi_sI, ← R_text_o ep]
          have fz : ∀ z, z ≠ y → z ≠ y + 12 → ∀ j, u2 (u2 (u2 g2 y 2 (nI r.2.2.2.2.1)) (y + 12) 0 0) (y + 12) 1 0 z j = g2 z j := fun z a b j => by rw [u2_x b, u2_x b, u2_x a]
          have fy : ∀ j, j ≠ 2 → u2 (u2 (u2 g2 y 2 (nI r.2.2.2.2.1)) (y + 12) 0 0) (y + 12) 1 0 y j = g2 y j := fun j hj => by rw [u2_x (by omega), u2_x (by omega), u2_k hj]
          have fo : ∀ z, z ≠ y → z ≠ y + 1 → z ≠ y + 2 → z ≠ y + 3 → z ≠ y + 12 → ∀ j, u2 (u2 (u2 g2 y 2 (nI r.2.2.2.2.1)) (y + 12) 0 0) (y + 12) 1 0 z j = f z j := fun z a b c e' e j => by rw [fz z a e, h1 z c, g1z z a b, mu.1 z a b e']
          refine hK _ (fun z hz j => fo z (by omega) (by omega) (by omega) (by omega) (by omega) j) ?_
          rw [N_text_o ep]
          refine ⟨?_, fun k hk => ?_, ⟨?_, fun k hk => ?_⟩, ⟨?_, fun i hi => absurd hi (Nat.not_lt_zero _)⟩, ⟨?_, ?_⟩, fun k hk => ?_, fun i hi => ?_, fun i hi => ?_, fun i hi => ?_⟩
          · exact (Pg_0.mp c3).fr (fun k hk => by rw [fz _ (by omega) (by omega), h1 _ (by omega)])
          · have e1 : tx_o σ r.2.2.1 r.2.2.2.1 r.2.2.2.2.1 (1 + k) = σ (1 + k) := by unfold tx_o; rw [us_n (by omega), us_n (by omega), us_n (by omega), us_n (by omega)]
            rw [e1]
            refine ⟨fun i hi => ?_, ?_⟩
            · rw [fz _ (by omega) (by omega), h1 _ (by omega), g1p _ (by omega), mu.2.1 _ (by omega)]; exact (M2 k hk).1 i hi
            · show _ = nI 0
              rcases (by omega : k = 0 ∨ k = 1) with e | e
              · rw [e, u2_k (by decide), u2_s]; rfl
              · rw [e, u2_s]; rfl
          · rw [u2_x (by omega), u2_x (by omega), u2_s]; rfl
          · rw [fz _ (by omega) (by omega)]; exact h2 k hk
          · rw [fy _ (by decide), h1 _ (by omega), g16]; rfl
          · rw [fy _ (by decide), h1 _ (by omega), g17]; rfl
          · rw [fy _ (by decide), h1 _ (by omega), g1y _ (by decide) (by decide), mu.2.2 _ (by decide)]; exact M6.2
          · rw [fo _ (by omega) (by omega) (by omega) (by omega) (by omega), fo _ (by omega) (by omega) (by omega) (by omega) (by omega)]; exact M7 k hk
          · rw [fo _ (by omega) (by omega) (by omega) (by omega) (by omega)]; exact M8 i hi
          · rw [fo _ (by omega) (by omega) (by omega) (by omega) (by omega)]; exact M9.1 i hi
          · rw [fo _ (by omega) (by omega) (by omega) (by omega) (by omega)]; exact M9.2 i hi
        · intro i hi ih g2 h1 h2
          refine b_X12_text_163 (hw12_r0 := hw) (hK := fun c => absurd c (ge_c (n := 192) hi (by decide))) (hb := fun _ => hi) (h := fun _ => ?_)
          rw [iv_sI, h1 _ (by omega), g1z _ (by omega) (by omega), pb.2.2.2.1 i hi, wi_sI]
          refine ih _ (fun z hz j => by rw [u2_x hz]; exact h1 z hz j) (fun k hk => ?_)
          by_cases c : k = i
          · rw [c, u2_s]
          · rw [u2_k c]; exact h2 k (by omega)
      exact H 0 (Nat.zero_le _) g1 (fun _ _ _ => rfl) (fun k hk => absurd hk (Nat.not_lt_zero _))
    · rw [wi_sI, iv_sI, e68, wi_sI, iv_sI, e8] at c
      exact absurd (le_r _) c
  -- behind the lines
  have E97B : ∀ g e l1, pTxt T n = .error e → MU f g y → BR g y n e → G X (Rm (d + 6)) mX12_text 97 [(0, .ref y), (1, .int l1)] [] (sI μ g) 0 0 K := fun g e l1 ep mu br => by
    have n0 : ¬ iv (sI μ g) y 8 = 0 := br.n0
    exact b_X12_text_97 (hw12_r0 := hw) (h := fun _ => EB g e l1 ep mu br) (h_2 := fun c => absurd c n0) (hc_fails := fun c => absurd c n0)
  have E73B : ∀ g e l1, pTxt T n = .error e → MU f g y → BR g y n e → G X (Rm (d + 6)) mX12_text 73 [(0, .ref y), (1, .int l1)] [] (sI μ g) 0 0 K := fun g e l1 ep mu br => by
    have n0 : ¬ iv (sI μ g) y 8 = 0 := br.n0
    exact b_X12_text_73 (hw12_r0 := hw) (h := fun _ => E97B g e l1 ep mu br) (h_2 := fun c => absurd c n0) (hc_readLine := fun c => absurd c n0)
  have E97 : ∀ g k s, pTxt T n = pEnd T n (k, s) → MU f g y → s.1 ≤ n → LV g y T n s.1 → PB g y T n s.2.1 s.2.2.1 s.2.2.2.1 s.2.2.2.2 → SI n s → G X (Rm (d + 6)) mX12_text 97 [(0, .ref y), (1, .int (nI k))] [] (sI μ g) 0 0 K := fun g k s ep mu hq lv pb hs => by
    have e8 : iv (sI μ g) y 8 = 0 := lv.1
    have e14 : iv (sI μ g) y 14 = nI s.2.2.2.2 := pb.2.2.2.2.2
    have e60 : iv (sI μ g) (y + 1) 243 = nI (s.2.1 60) := pb.2.2.1 60 (by decide)
    have b6 := hs.2.1.1
    have le : (iv (sI μ g) y 14 ≤ iv (sI μ g) (y + 1) 243) ↔ s.2.2.2.2 ≤ s.2.1 60 := by rw [e14, e60]; exact nI_leI (by omega) (by omega)
    refine b_X12_text_97 (hw12_r0 := hw) (h := fun c => absurd e8 c) (h_2 := fun _ c => ?_) (hc_fails := fun _ c => ?_)
    · rw [le] at c
      have e : pTxt T n = .ok (k, s) := by rw [ep]; unfold pEnd; rw [if_pos c]
      exact EO g (k, s) e mu lv.1 pb
    · rw [le] at c
      have e : pTxt T n = .error (6, tA T n s.1) := by rw [ep]; unfold pEnd; rw [if_neg c]
      exact m_failL (c := 6) hw hq lv (by decide) (fun g2 mg br => EB g2 _ _ e (mu.tr mg.mu) br)
  have L73 : ∀ (mm k : Nat), k + mm = 320 → ∀ g s, k ≤ s.1 → MU f g y → RQ g y T n s.1 → PB g y T n s.2.1 s.2.2.1 s.2.2.2.1 s.2.2.2.2 → SI n s → pTxt T n = bnd (pLns T n mm k s) (pEnd T n) → G X (Rm (d + 6)) mX12_text 73 [(0, .ref y), (1, .int (nI k))] [] (sI μ g) 0 0 K := by
    intro mm
    induction mm with
    | zero =>
      intro k hk g s ks mu rq pb hs ep
      have q1 := rq.1
      have ab := tA_b (T := T) q1
      have t0 : tK T n s.1 = 0 := Decidable.byContradiction fun w => by have := (tK_n0 (T := T) q1 w).2; omega
      rcases rq.2 with ⟨t5, br⟩ | lv
      · omega
      · have e8 : iv (sI μ g) y 8 = 0 := lv.1
        have k0 : iv (sI μ g) y 12 = 0 := by rw [iv_sI, lv.2.2.2.1, t0]; rfl
        exact b_X12_text_73 (hw12_r0 := hw) (h := fun c => absurd e8 c) (h_2 := fun _ _ => E97 g k s ep mu q1 lv pb hs) (hc_readLine := fun _ c => absurd k0 c)
    | succ mm ih =>
      intro k hk g s ks mu rq pb hs ep
      have q1 := rq.1
      rw [pLns_s] at ep
      rcases rq.2 with ⟨t5, br⟩ | lv
      · rw [if_neg (by omega)] at ep
        have el : pLine T n s = .error (1, tA T n s.1) := by
          have n13 : ∀ w, w < 13 → nmW T n s.1 ≠ w := fun w hw z => by have := nmW_1 (T := T) (n := n) (q := s.1) (by omega); omega
          unfold pLine
          rw [if_neg (n13 8 (by decide)), if_neg (n13 4 (by decide)), if_neg (n13 0 (by decide)), if_neg (n13 2 (by decide)), if_neg (n13 9 (by decide)), rT_5 t5]
        exact E73B g _ _ (by rw [ep]; exact bnd_e (bnd_e el)) mu br
      · have e8 : iv (sI μ g) y 8 = 0 := lv.1
        have tl := tK_le (T := T) (n := n) (q := s.1)
        have k0 : (iv (sI μ g) y 12 = 0) ↔ tK T n s.1 = 0 := by rw [iv_sI, lv.2.2.2.1]; exact nI_z (by omega)
        refine b_X12_text_73 (hw12_r0 := hw) (h := fun c => absurd e8 c) (h_2 := fun _ c => ?_) (hc_readLine := fun _ c => ?_)
        · rw [k0] at c
          rw [if_pos c] at ep
          exact E97 g k s ep mu q1 lv pb hs
        · rw [k0] at c
          rw [if_neg c] at ep
          refine m_readLine hw hs lv pb (fun g2 e2 d1 d2 d3 => b_X12_text_91 ?_) (fun g2 r d1 d2 d3 d4 => b_X12_text_91 ?_)
          · exact E73B g2 e2 _ (by rw [ep]; exact bnd_e (bnd_e d1)) (mu.tr d2) d3
          · rw [bnd_o d1] at ep
            have p1 := pLine_ok hs d1
            exact ih (k + 1) (by omega) g2 r (by omega) (mu.tr d2) d3 d4 p1.1 ep
  -- the beginning
  refine Ct_of rfl (Nat.le_of_ble_eq_true rfl) (b_X12_text_0 hw ?_)
  rw [wi_sI, wi_sI, wi_sI, wi_sI]
  have b8 : u2 (u2 (u2 (u2 f y 8 0) y 10 0) y 14 0) y 4 0 y 8 = 0 := by rw [u2_k (by decide), u2_k (by decide), u2_k (by decide), u2_s]
  have b10 : u2 (u2 (u2 (u2 f y 8 0) y 10 0) y 14 0) y 4 0 y 10 = nI 0 := by rw [u2_k (by decide), u2_k (by decide), u2_s]; rfl
  have b14 : u2 (u2 (u2 (u2 f y 8 0) y 10 0) y 14 0) y 4 0 y 14 = nI 0 := by rw [u2_k (by decide), u2_s]; rfl
  have b4 : u2 (u2 (u2 (u2 f y 8 0) y 10 0) y 14 0) y 4 0 y 4 = nI 0 := u2_s _ _ _ _
  have mu0 : MU f (u2 (u2 (u2 (u2 f y 8 0) y 10 0) y 14 0) y 4 0) y := ⟨fun z a _ _ j => by rw [u2_x a, u2_x a, u2_x a, u2_x a], fun k _ => by rw [u2_x (by omega), u2_x (by omega), u2_x (by omega), u2_x (by omega)], fun j hj => by rw [u2_k (by omega), u2_k (by omega), u2_k (by omega), u2_k (by omega)]⟩
  generalize u2 (u2 (u2 (u2 f y 8 0) y 10 0) y 14 0) y 4 0 = f0 at b8 b10 b14 b4 mu0 ⊢
  have tpf : MTP f y T n := by rw [eT, en]; exact ⟨hO.2.2.2.1.1, hO.2.2.2.1.2, M5.1, M5.2⟩
  have H49 : ∀ i, i ≤ 192 → ∀ g, MU f g y → (∀ j, g y j = f0 y j) → Pg g y 183 (fun _ => 0) → (∀ k, k < i → g (y + 3) k = nI 0) → G X (Rm (d + 6)) mX12_text 49 [(0, .ref y), (1, .int (nI 0)), (2, .int (nI i))] [] (sI μ g) 0 0 K := by
    refine dn 192 ?_ ?_
    · intro g mu gy pg h3
      refine b_X12_text_49 (hw12_r0 := hw) (hc_readsOn := fun _ => ?_) (hb := fun c => absurd (le_r _) c) (h := fun c => absurd (le_r _) c)
      have tp := tpf.mu mu
      have nm : NM g y := NM.mu M9 mu
      have pb : PB g y T n (fun _ => 0) (fun _ => 0) 0 0 := ⟨tp, nm, pg, h3, by rw [gy]; exact b4, by rw [gy]; exact b14⟩
      refine m_readS hw tp (by rw [gy]; exact b8) (by rw [gy]; exact b10) (Nat.zero_le _) (fun g1 mg rq => ?_)
      exact L73 320 0 (by decide) g1 pS0 (Nat.zero_le _) (mu.tr mg.mu) rq (pb.mg mg) (SI_0 n) rfl
    · intro i hi ih g mu gy pg h3
      refine b_X12_text_49 (hw12_r0 := hw) (hc_readsOn := fun c => absurd c (ge_c (n := 192) hi (by decide))) (hb := fun _ => hi) (h := fun _ => ?_)
      rw [wi_sI]
      refine ih _ (mu.tr (mu3 fu3)) (fun j => by rw [u2_x (by omega)]; exact gy j) (fun k hk => by rw [u2_x (by omega)]; exact pg k hk) (fun k hk => ?_)
      by_cases c : k = i
      · rw [c, u2_s]; rfl
      · rw [u2_k c]; exact h3 k (by omega)
  have H24 : ∀ i, i ≤ 61 → ∀ g, MU f g y → (∀ j, g y j = f0 y j) → (∀ k, k < i → g (y + 1) (183 + k) = nI 0) → G X (Rm (d + 6)) mX12_text 24 [(0, .ref y), (1, .int (nI 0)), (2, .int (nI i))] [] (sI μ g) 0 0 K := by
    refine dn 61 ?_ ?_
    · intro g mu gy h3
      exact b_X12_text_24 (h := fun _ => H49 0 (Nat.zero_le _) g mu gy h3 (fun k hk => absurd hk (Nat.not_lt_zero _))) (hw12_r0 := hw) (hb := fun c => absurd (le_r _) c) (h_2 := fun c => absurd (le_r _) c)
    · intro i hi ih g mu gy h3
      refine b_X12_text_24 (h := fun c => absurd c (ge_c (n := 61) hi (by decide))) (hw12_r0 := hw) (hb := fun _ => by omega) (h_2 := fun _ => ?_)
      rw [wi_sI]
      refine ih _ (mu.tr ⟨fun z _ b _ j => u2_x b, fun k hk => u2_k (by omega), fun j _ => u2_x (by omega)⟩) (fun j => by rw [u2_x (by omega)]; exact gy j) (fun k hk => ?_)
      by_cases c : k = i
      · rw [c, u2_s]; rfl
      · rw [u2_k (by omega)]; exact h3 k (by omega)
  exact H24 0 (Nat.zero_le _) f0 mu0 (fun _ => rfl) (fun k hk => absurd hk (Nat.not_lt_zero _))
theorem pLns_ok {T : Nat → Nat} {n : Nat} : ∀ (m k : Nat) (s : pS) (r : Nat × pS), SI n s → pLns T n m k s = .ok r → SI n r.2 := by
  intro m
  induction m with
  | zero =>
    intro k s r hs hh
    injection hh with hh
    subst hh
    exact hs
  | succ m ih =>
    intro k s r hs hh
    rw [pLns_s] at hh
    by_cases z : tK T n s.1 = 0
    · rw [if_pos z] at hh
      injection hh with hh
      subst hh
      exact hs
    · rw [if_neg z] at hh
      obtain ⟨r1, e1, hh⟩ := bnd_ok hh
      exact ih (k + 1) r1 r (pLine_ok hs e1).1 hh
theorem ok_text (h : OKs σ) : OKs (N_text σ) := by
  obtain ⟨h1, h2, h3, h4, h5, h6⟩ := h
  cases hp : pTxt (σ 6) (σ 5 1) with
  | error e =>
    rw [N_text_e hp]
    exact ⟨h1, fun k hk => by have e1 : tx_e σ e.1 (1 + k) = σ (1 + k) := us_n (by omega)
                              rw [e1]; exact h2 k hk, h3, ⟨Nat.zero_le _, fun i hi => absurd hi (Nat.not_lt_zero _)⟩, h5, h6⟩
  | ok r =>
    rw [N_text_o hp]
    unfold pTxt at hp
    obtain ⟨r1, e1, hp⟩ := bnd_ok hp
    have si := pLns_ok 320 0 pS0 r1 (SI_0 _) e1
    unfold pEnd at hp
    by_cases c : r1.2.2.2.2.2 ≤ r1.2.2.1 60
    · rw [if_pos c] at hp
      injection hp with hp
      subst hp
      refine ⟨okDr_end si.2.1 c, fun k hk => ?_, ⟨si.2.2.1, si.2.2.2.1⟩, ⟨Nat.zero_le _, fun i hi => absurd hi (Nat.not_lt_zero _)⟩, h5, h6⟩
      have e1 : tx_o σ r1.2.2.1 r1.2.2.2.1 r1.2.2.2.2.1 (1 + k) = σ (1 + k) := by unfold tx_o; rw [us_n (by omega), us_n (by omega), us_n (by omega), us_n (by omega)]
      rw [e1]
      exact ⟨(h2 k hk).1, Nat.zero_le _⟩
    · rw [if_neg c] at hp
      exact absurd hp (by intro w; injection w)
end P69
