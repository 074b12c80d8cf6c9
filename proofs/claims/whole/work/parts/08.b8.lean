theorem nadd {x y : Int32} {a b : Nat} (hx : x = nI a) (hy : y = nI b) : x + y = nI (a + b) := by rw [hx, hy]; exact nI_add a b
theorem nmul {x y : Int32} {a b : Nat} (hx : x = nI a) (hy : y = nI b) : x * y = nI (a * b) := by rw [hx, hy]; exact pk_mul a b

theorem d_J7_fill_53178_0 : decode cJ7_fill_53178 0 = .ok (.iconst 0, 1) := by decide +kernel
theorem d_J7_fill_53178_1 : decode cJ7_fill_53178 1 = .ok (.istore_n 2, 1) := by decide +kernel
theorem d_J7_fill_53178_2 : decode cJ7_fill_53178 2 = .ok (.aload_n 0, 1) := by decide +kernel
theorem d_J7_fill_53178_3 : decode cJ7_fill_53178 3 = .ok (.arraylength, 1) := by decide +kernel
theorem d_J7_fill_53178_4 : decode cJ7_fill_53178 4 = .ok (.istore_n 3, 1) := by decide +kernel
theorem d_J7_fill_53178_5 : decode cJ7_fill_53178 5 = .ok (.iload_n 2, 1) := by decide +kernel
theorem d_J7_fill_53178_6 : decode cJ7_fill_53178 6 = .ok (.iload_n 3, 1) := by decide +kernel
theorem d_J7_fill_53178_7 : decode cJ7_fill_53178 7 = .ok (.if_icmp .ge 13, 3) := by decide +kernel
theorem d_J7_fill_53178_10 : decode cJ7_fill_53178 10 = .ok (.aload_n 0, 1) := by decide +kernel
theorem d_J7_fill_53178_11 : decode cJ7_fill_53178 11 = .ok (.iload_n 2, 1) := by decide +kernel
theorem d_J7_fill_53178_12 : decode cJ7_fill_53178 12 = .ok (.iload_n 1, 1) := by decide +kernel
theorem d_J7_fill_53178_13 : decode cJ7_fill_53178 13 = .ok (.iastore, 1) := by decide +kernel
theorem d_J7_fill_53178_14 : decode cJ7_fill_53178 14 = .ok (.iinc 2 1, 3) := by decide +kernel
theorem d_J7_fill_53178_17 : decode cJ7_fill_53178 17 = .ok (.goto (-12), 3) := by decide +kernel
theorem d_J7_fill_53178_20 : decode cJ7_fill_53178 20 = .ok (.return_, 1) := by decide +kernel
theorem b_J7_fill_53178_0 {X : cX} {d : Nat} {μ : mM} {K : Option Value → mM → Prop} {r0 : Nat} {l1 : Int32} {n0 : Nat} (hk_r0 : kd μ r0 = (1, n0)) (h : G X (Rm d) mJ7_fill_53178 5 [(0, .ref r0), (1, .int l1), (2, .int (nI 0)), (3, .int (nI n0))] [] μ 0 0 K) : G X (Rm d) mJ7_fill_53178 0 [(0, .ref r0), (1, .int l1)] [] μ 0 0 K := by
  refine G_iconst d_J7_fill_53178_0 ic_0 ?_
  refine G_istore_n (L' := [(2, .int (nI 0)), (0, .ref r0), (1, .int l1)]) d_J7_fill_53178_1 rfl (by decide) rfl ?_
  refine G_aload_n d_J7_fill_53178_2 rfl 1 rfl ?_
  refine G_alen hk_r0 (by decide) (by decide) d_J7_fill_53178_3 ?_
  refine G_istore_n (L' := [(3, .int (nI n0)), (2, .int (nI 0)), (0, .ref r0), (1, .int l1)]) d_J7_fill_53178_4 rfl (by decide) rfl ?_
  refine G_sub (L' := [(0, .ref r0), (1, .int l1), (2, .int (nI 0)), (3, .int (nI n0))]) [2, 3, 1, 0] rfl ?_
  exact h
theorem b_J7_fill_53178_5 {X : cX} {d : Nat} {μ : mM} {K : Option Value → mM → Prop} {r0 : Nat} {l1 : Int32} {i2 : Nat} {l3 : Int32} {n0 : Nat} (hK : l3 ≤ (nI i2) → K none μ) (hk_r0 : kd μ r0 = (1, n0)) (hb : ¬ l3 ≤ (nI i2) → i2 < n0) (h : ¬ l3 ≤ (nI i2) → G X (Rm d) mJ7_fill_53178 5 [(0, .ref r0), (1, .int l1), (2, .int (nI (i2 + 1))), (3, .int l3)] [] (wi μ r0 i2 l1) 0 0 K) : G X (Rm d) mJ7_fill_53178 5 [(0, .ref r0), (1, .int l1), (2, .int (nI i2)), (3, .int l3)] [] μ 0 0 K := by
  refine G_iload_n d_J7_fill_53178_5 rfl 2 rfl ?_
  refine G_iload_n d_J7_fill_53178_6 rfl 3 rfl ?_
  refine G_icmp_ge (tgt := 20) d_J7_fill_53178_7 rfl (fun c0 => ?_) (fun c0 => ?_)
  ·
    exact G_vret rfl rfl rfl d_J7_fill_53178_20 (hK c0)
  ·
    refine G_aload_n d_J7_fill_53178_10 rfl 0 rfl ?_
    refine G_iload_n d_J7_fill_53178_11 rfl 2 rfl ?_
    refine G_iload_n d_J7_fill_53178_12 rfl 1 rfl ?_
    refine G_iast i2 hk_r0 rfl (hb c0) d_J7_fill_53178_13 ?_
    refine G_iinc (L' := [(2, .int (nI (i2 + 1))), (0, .ref r0), (1, .int l1), (3, .int l3)]) d_J7_fill_53178_14 2 rfl (inc1 i2) (by decide) rfl ?_
    refine G_goto (tgt := 5) d_J7_fill_53178_17 rfl ?_
    refine G_sub (L' := [(0, .ref r0), (1, .int l1), (2, .int (nI (i2 + 1))), (3, .int l3)]) [1, 2, 0, 3] rfl ?_
    exact (h c0)
theorem d_X0_allows_0 : decode cX0_allows 0 = .ok (.iload_n 0, 1) := by decide +kernel
theorem d_X0_allows_1 : decode cX0_allows 1 = .ok (.iconst 1, 1) := by decide +kernel
theorem d_X0_allows_2 : decode cX0_allows 2 = .ok (.if_icmp .eq 8, 3) := by decide +kernel
theorem d_X0_allows_5 : decode cX0_allows 5 = .ok (.iload_n 0, 1) := by decide +kernel
theorem d_X0_allows_6 : decode cX0_allows 6 = .ok (.iload_n 1, 1) := by decide +kernel
theorem d_X0_allows_7 : decode cX0_allows 7 = .ok (.if_icmp .ne 7, 3) := by decide +kernel
theorem d_X0_allows_10 : decode cX0_allows 10 = .ok (.iconst 1, 1) := by decide +kernel
theorem d_X0_allows_11 : decode cX0_allows 11 = .ok (.goto 4, 3) := by decide +kernel
theorem d_X0_allows_14 : decode cX0_allows 14 = .ok (.iconst 0, 1) := by decide +kernel
theorem d_X0_allows_15 : decode cX0_allows 15 = .ok (.ireturn, 1) := by decide +kernel
theorem b_X0_allows_0 {X : cX} {d : Nat} {μ : mM} {K : Option Value → mM → Prop} {l0 : Int32} {l1 : Int32} (hK : l0 = (1 : Int32) → K (some (.int 1)) μ) (hK_2 : ¬ l0 = (1 : Int32) → ¬ l0 = l1 → K (some (.int 0)) μ) (hK_3 : ¬ l0 = (1 : Int32) → l0 = l1 → K (some (.int 1)) μ) : G X (Rm d) mX0_allows 0 [(0, .int l0), (1, .int l1)] [] μ 0 0 K := by
  refine G_iload_n d_X0_allows_0 rfl 0 rfl ?_
  refine G_iconst d_X0_allows_1 ic_1 ?_
  refine G_icmp_eq (tgt := 10) d_X0_allows_2 rfl (fun c0 => ?_) (fun c0 => ?_)
  ·
    refine G_iconst d_X0_allows_10 ic_1 ?_
    refine G_goto (tgt := 15) d_X0_allows_11 rfl ?_
    exact G_zret rfl rfl rfl rfl d_X0_allows_15 (hK c0)
  ·
    refine G_iload_n d_X0_allows_5 rfl 0 rfl ?_
    refine G_iload_n d_X0_allows_6 rfl 1 rfl ?_
    refine G_icmp_ne (tgt := 14) d_X0_allows_7 rfl (fun c1 => ?_) (fun c1 => ?_)
    ·
      refine G_iconst d_X0_allows_14 ic_0 ?_
      exact G_zret rfl rfl rfl rfl d_X0_allows_15 (hK_2 c0 c1)
    ·
      refine G_iconst d_X0_allows_10 ic_1 ?_
      refine G_goto (tgt := 15) d_X0_allows_11 rfl ?_
      exact G_zret rfl rfl rfl rfl d_X0_allows_15 (hK_3 c0 c1)
def e_X0_allows (μ : mM) (l0 : Int32) (l1 : Int32) : Int32 := (if l0 = (1 : Int32) then 1 else (if l0 = l1 then 1 else 0))
theorem s_X0_allows {X : cX} {d : Nat} {μ : mM} {K : Option Value → mM → Prop} {l0 : Int32} {l1 : Int32}  (hK : K (some (.int (e_X0_allows μ l0 l1))) μ) : Ct X (Rm d) mX0_allows [.int l0, .int l1] μ K := Ct_of rfl (Nat.le_of_ble_eq_true rfl) (G_sub [0, 1] rfl (b_X0_allows_0 (fun c0 => by unfold e_X0_allows at hK; rw [if_pos c0] at hK; exact hK) (fun c0 c1 => by unfold e_X0_allows at hK; rw [if_neg c0, if_neg c1] at hK; exact hK) (fun c0 c1 => by unfold e_X0_allows at hK; rw [if_neg c0, if_pos c1] at hK; exact hK)))
theorem d_X0_fits_0 : decode cX0_fits 0 = .ok (.aload_n 1, 1) := by decide +kernel
theorem d_X0_fits_1 : decode cX0_fits 1 = .ok (.getfield 37, 3) := by decide +kernel
theorem d_X0_fits_4 : decode cX0_fits 4 = .ok (.iload 4, 2) := by decide +kernel
theorem d_X0_fits_6 : decode cX0_fits 6 = .ok (.baload, 1) := by decide +kernel
theorem d_X0_fits_7 : decode cX0_fits 7 = .ok (.ifCond .ne 24, 3) := by decide +kernel
theorem d_X0_fits_10 : decode cX0_fits 10 = .ok (.aload_n 2, 1) := by decide +kernel
theorem d_X0_fits_11 : decode cX0_fits 11 = .ok (.getfield 37, 3) := by decide +kernel
theorem d_X0_fits_14 : decode cX0_fits 14 = .ok (.iload_n 3, 1) := by decide +kernel
theorem d_X0_fits_15 : decode cX0_fits 15 = .ok (.baload, 1) := by decide +kernel
theorem d_X0_fits_16 : decode cX0_fits 16 = .ok (.ifCond .ne 13, 3) := by decide +kernel
theorem d_X0_fits_19 : decode cX0_fits 19 = .ok (.aload_n 0, 1) := by decide +kernel
theorem d_X0_fits_20 : decode cX0_fits 20 = .ok (.getfield 15, 3) := by decide +kernel
theorem d_X0_fits_23 : decode cX0_fits 23 = .ok (.iload 4, 2) := by decide +kernel
theorem d_X0_fits_25 : decode cX0_fits 25 = .ok (.iaload, 1) := by decide +kernel
theorem d_X0_fits_26 : decode cX0_fits 26 = .ok (.ifCond .le 5, 3) := by decide +kernel
theorem d_X0_fits_29 : decode cX0_fits 29 = .ok (.iconst 0, 1) := by decide +kernel
theorem d_X0_fits_30 : decode cX0_fits 30 = .ok (.ireturn, 1) := by decide +kernel
theorem d_X0_fits_31 : decode cX0_fits 31 = .ok (.iconst 0, 1) := by decide +kernel
theorem d_X0_fits_32 : decode cX0_fits 32 = .ok (.istore 5, 2) := by decide +kernel
theorem d_X0_fits_34 : decode cX0_fits 34 = .ok (.iload 5, 2) := by decide +kernel
theorem d_X0_fits_36 : decode cX0_fits 36 = .ok (.iconst 3, 1) := by decide +kernel
theorem d_X0_fits_37 : decode cX0_fits 37 = .ok (.if_icmp .ge 36, 3) := by decide +kernel
theorem d_X0_fits_40 : decode cX0_fits 40 = .ok (.aload_n 1, 1) := by decide +kernel
theorem d_X0_fits_41 : decode cX0_fits 41 = .ok (.getfield 41, 3) := by decide +kernel
theorem d_X0_fits_44 : decode cX0_fits 44 = .ok (.iload 5, 2) := by decide +kernel
theorem d_X0_fits_46 : decode cX0_fits 46 = .ok (.aaload, 1) := by decide +kernel
theorem d_X0_fits_47 : decode cX0_fits 47 = .ok (.iload 4, 2) := by decide +kernel
theorem d_X0_fits_49 : decode cX0_fits 49 = .ok (.iaload, 1) := by decide +kernel
theorem d_X0_fits_50 : decode cX0_fits 50 = .ok (.aload_n 2, 1) := by decide +kernel
theorem d_X0_fits_51 : decode cX0_fits 51 = .ok (.getfield 41, 3) := by decide +kernel
theorem d_X0_fits_54 : decode cX0_fits 54 = .ok (.iload 5, 2) := by decide +kernel
theorem d_X0_fits_56 : decode cX0_fits 56 = .ok (.aaload, 1) := by decide +kernel
theorem d_X0_fits_57 : decode cX0_fits 57 = .ok (.iload_n 3, 1) := by decide +kernel
theorem d_X0_fits_58 : decode cX0_fits 58 = .ok (.iaload, 1) := by decide +kernel
theorem d_X0_fits_59 : decode cX0_fits 59 = .ok (.invokestatic 45, 3) := by decide +kernel
theorem d_X0_fits_62 : decode cX0_fits 62 = .ok (.ifCond .ne 5, 3) := by decide +kernel
theorem d_X0_fits_65 : decode cX0_fits 65 = .ok (.iconst 0, 1) := by decide +kernel
theorem d_X0_fits_66 : decode cX0_fits 66 = .ok (.ireturn, 1) := by decide +kernel
theorem d_X0_fits_67 : decode cX0_fits 67 = .ok (.iinc 5 1, 3) := by decide +kernel
theorem d_X0_fits_70 : decode cX0_fits 70 = .ok (.goto (-36), 3) := by decide +kernel
theorem d_X0_fits_73 : decode cX0_fits 73 = .ok (.aload_n 1, 1) := by decide +kernel
theorem d_X0_fits_74 : decode cX0_fits 74 = .ok (.getfield 49, 3) := by decide +kernel
theorem d_X0_fits_77 : decode cX0_fits 77 = .ok (.iload 4, 2) := by decide +kernel
theorem d_X0_fits_79 : decode cX0_fits 79 = .ok (.aaload, 1) := by decide +kernel
theorem d_X0_fits_80 : decode cX0_fits 80 = .ok (.iload 4, 2) := by decide +kernel
theorem d_X0_fits_82 : decode cX0_fits 82 = .ok (.iaload, 1) := by decide +kernel
theorem d_X0_fits_83 : decode cX0_fits 83 = .ok (.aload_n 2, 1) := by decide +kernel
theorem d_X0_fits_84 : decode cX0_fits 84 = .ok (.getfield 49, 3) := by decide +kernel
theorem d_X0_fits_87 : decode cX0_fits 87 = .ok (.iload_n 3, 1) := by decide +kernel
theorem d_X0_fits_88 : decode cX0_fits 88 = .ok (.aaload, 1) := by decide +kernel
theorem d_X0_fits_89 : decode cX0_fits 89 = .ok (.iload_n 3, 1) := by decide +kernel
theorem d_X0_fits_90 : decode cX0_fits 90 = .ok (.iaload, 1) := by decide +kernel
theorem d_X0_fits_91 : decode cX0_fits 91 = .ok (.invokestatic 45, 3) := by decide +kernel
theorem d_X0_fits_94 : decode cX0_fits 94 = .ok (.ifCond .ne 5, 3) := by decide +kernel
theorem d_X0_fits_97 : decode cX0_fits 97 = .ok (.iconst 0, 1) := by decide +kernel
theorem d_X0_fits_98 : decode cX0_fits 98 = .ok (.ireturn, 1) := by decide +kernel
theorem d_X0_fits_99 : decode cX0_fits 99 = .ok (.iconst 0, 1) := by decide +kernel
theorem d_X0_fits_100 : decode cX0_fits 100 = .ok (.istore 5, 2) := by decide +kernel
theorem d_X0_fits_102 : decode cX0_fits 102 = .ok (.iload 5, 2) := by decide +kernel
theorem d_X0_fits_104 : decode cX0_fits 104 = .ok (.iload_n 3, 1) := by decide +kernel
theorem d_X0_fits_105 : decode cX0_fits 105 = .ok (.if_icmp .ge 70, 3) := by decide +kernel
theorem d_X0_fits_108 : decode cX0_fits 108 = .ok (.aload_n 0, 1) := by decide +kernel
theorem d_X0_fits_109 : decode cX0_fits 109 = .ok (.getfield 9, 3) := by decide +kernel
theorem d_X0_fits_112 : decode cX0_fits 112 = .ok (.iload 5, 2) := by decide +kernel
theorem d_X0_fits_114 : decode cX0_fits 114 = .ok (.iaload, 1) := by decide +kernel
theorem d_X0_fits_115 : decode cX0_fits 115 = .ok (.istore 6, 2) := by decide +kernel
theorem d_X0_fits_117 : decode cX0_fits 117 = .ok (.aload_n 1, 1) := by decide +kernel
theorem d_X0_fits_118 : decode cX0_fits 118 = .ok (.getfield 49, 3) := by decide +kernel
theorem d_X0_fits_121 : decode cX0_fits 121 = .ok (.iload 4, 2) := by decide +kernel
theorem d_X0_fits_123 : decode cX0_fits 123 = .ok (.aaload, 1) := by decide +kernel
theorem d_X0_fits_124 : decode cX0_fits 124 = .ok (.iload 6, 2) := by decide +kernel
theorem d_X0_fits_126 : decode cX0_fits 126 = .ok (.iaload, 1) := by decide +kernel
theorem d_X0_fits_127 : decode cX0_fits 127 = .ok (.aload_n 2, 1) := by decide +kernel
theorem d_X0_fits_128 : decode cX0_fits 128 = .ok (.getfield 49, 3) := by decide +kernel
theorem d_X0_fits_131 : decode cX0_fits 131 = .ok (.iload_n 3, 1) := by decide +kernel
theorem d_X0_fits_132 : decode cX0_fits 132 = .ok (.aaload, 1) := by decide +kernel
theorem d_X0_fits_133 : decode cX0_fits 133 = .ok (.iload 5, 2) := by decide +kernel
theorem d_X0_fits_135 : decode cX0_fits 135 = .ok (.iaload, 1) := by decide +kernel
theorem d_X0_fits_136 : decode cX0_fits 136 = .ok (.invokestatic 45, 3) := by decide +kernel
theorem d_X0_fits_139 : decode cX0_fits 139 = .ok (.ifCond .eq 28, 3) := by decide +kernel
theorem d_X0_fits_142 : decode cX0_fits 142 = .ok (.aload_n 1, 1) := by decide +kernel
theorem d_X0_fits_143 : decode cX0_fits 143 = .ok (.getfield 49, 3) := by decide +kernel
theorem d_X0_fits_146 : decode cX0_fits 146 = .ok (.iload 6, 2) := by decide +kernel
theorem d_X0_fits_148 : decode cX0_fits 148 = .ok (.aaload, 1) := by decide +kernel
theorem d_X0_fits_149 : decode cX0_fits 149 = .ok (.iload 4, 2) := by decide +kernel
theorem d_X0_fits_151 : decode cX0_fits 151 = .ok (.iaload, 1) := by decide +kernel
theorem d_X0_fits_152 : decode cX0_fits 152 = .ok (.aload_n 2, 1) := by decide +kernel
theorem d_X0_fits_153 : decode cX0_fits 153 = .ok (.getfield 49, 3) := by decide +kernel
theorem d_X0_fits_156 : decode cX0_fits 156 = .ok (.iload 5, 2) := by decide +kernel
theorem d_X0_fits_158 : decode cX0_fits 158 = .ok (.aaload, 1) := by decide +kernel
theorem d_X0_fits_159 : decode cX0_fits 159 = .ok (.iload_n 3, 1) := by decide +kernel
theorem d_X0_fits_160 : decode cX0_fits 160 = .ok (.iaload, 1) := by decide +kernel
theorem d_X0_fits_161 : decode cX0_fits 161 = .ok (.invokestatic 45, 3) := by decide +kernel
theorem d_X0_fits_164 : decode cX0_fits 164 = .ok (.ifCond .ne 5, 3) := by decide +kernel
theorem d_X0_fits_167 : decode cX0_fits 167 = .ok (.iconst 0, 1) := by decide +kernel
theorem d_X0_fits_168 : decode cX0_fits 168 = .ok (.ireturn, 1) := by decide +kernel
theorem d_X0_fits_169 : decode cX0_fits 169 = .ok (.iinc 5 1, 3) := by decide +kernel
theorem d_X0_fits_172 : decode cX0_fits 172 = .ok (.goto (-70), 3) := by decide +kernel
theorem d_X0_fits_175 : decode cX0_fits 175 = .ok (.iconst 1, 1) := by decide +kernel
theorem d_X0_fits_176 : decode cX0_fits 176 = .ok (.ireturn, 1) := by decide +kernel
theorem b_X0_fits_0 {X : cX} {d : Nat} {μ : mM} {K : Option Value → mM → Prop} {r0 : Nat} {r1 : Nat} {r2 : Nat} {i3 : Nat} {i4 : Nat} (hw5_r1 : WF5 μ r1) (hb : i4 < 6) (h : ¬ (iv μ (r1 + 1) i4) = 0 → G X (Rm (d + 1)) mX0_fits 31 [(0, .ref r0), (1, .ref r1), (2, .ref r2), (3, .int (nI i3)), (4, .int (nI i4))] [] μ 0 0 K) (hw5_r2 : WF5 μ r2) (hb_2 : (iv μ (r1 + 1) i4) = 0 → i3 < 6) (hK : (iv μ (r1 + 1) i4) = 0 → ¬ (iv μ (r2 + 1) i3) = 0 → K (some (.int 0)) μ) (hw0_r0 : WF0 μ r0) (hb_3 : (iv μ (r1 + 1) i4) = 0 → (iv μ (r2 + 1) i3) = 0 → i4 < 6) (h_2 : (iv μ (r1 + 1) i4) = 0 → (iv μ (r2 + 1) i3) = 0 → (iv μ (r0 + 2) i4) ≤ 0 → G X (Rm (d + 1)) mX0_fits 31 [(0, .ref r0), (1, .ref r1), (2, .ref r2), (3, .int (nI i3)), (4, .int (nI i4))] [] μ 0 0 K) (hK_2 : (iv μ (r1 + 1) i4) = 0 → (iv μ (r2 + 1) i3) = 0 → ¬ (iv μ (r0 + 2) i4) ≤ 0 → K (some (.int 0)) μ) : G X (Rm (d + 1)) mX0_fits 0 [(0, .ref r0), (1, .ref r1), (2, .ref r2), (3, .int (nI i3)), (4, .int (nI i4))] [] μ 0 0 K := by
  refine G_aload_n d_X0_fits_0 rfl 1 rfl ?_
  refine G_getR (r := r1 + 1) 5 1 (w5_kd hw5_r1) (w5_f1 hw5_r1) cok5 (by decide) rfl fl_X0_37 d_X0_fits_1 ?_
  refine G_iload d_X0_fits_4 4 rfl ?_
  refine G_zald i4 (w5_k1 hw5_r1) rfl hb d_X0_fits_6 ?_
  refine G_if_ne (tgt := 31) d_X0_fits_7 rfl (fun c0 => ?_) (fun c0 => ?_)
  ·
    exact (h c0)
  ·
    refine G_aload_n d_X0_fits_10 rfl 2 rfl ?_
    refine G_getR (r := r2 + 1) 5 1 (w5_kd hw5_r2) (w5_f1 hw5_r2) cok5 (by decide) rfl fl_X0_37 d_X0_fits_11 ?_
    refine G_iload_n d_X0_fits_14 rfl 3 rfl ?_
    refine G_zald i3 (w5_k1 hw5_r2) rfl (hb_2 c0) d_X0_fits_15 ?_
    refine G_if_ne (tgt := 29) d_X0_fits_16 rfl (fun c1 => ?_) (fun c1 => ?_)
    ·
      refine G_iconst d_X0_fits_29 ic_0 ?_
      exact G_zret rfl rfl rfl rfl d_X0_fits_30 (hK c0 c1)
    ·
      refine G_aload_n d_X0_fits_19 rfl 0 rfl ?_
      refine G_getR (r := r0 + 2) 0 1 (w0_kd hw0_r0) (w0_f1 hw0_r0) cok0 (by decide) rfl fl_X0_15 d_X0_fits_20 ?_
      refine G_iload d_X0_fits_23 4 rfl ?_
      refine G_iald i4 (w0_k1 hw0_r0) rfl (hb_3 c0 c1) d_X0_fits_25 ?_
      refine G_if_le (tgt := 31) d_X0_fits_26 rfl (fun c2 => ?_) (fun c2 => ?_)
      ·
        exact (h_2 c0 c1 c2)
      ·
        refine G_iconst d_X0_fits_29 ic_0 ?_
        exact G_zret rfl rfl rfl rfl d_X0_fits_30 (hK_2 c0 c1 c2)
theorem b_X0_fits_31 {X : cX} {d : Nat} {μ : mM} {K : Option Value → mM → Prop} {r0 : Nat} {r1 : Nat} {r2 : Nat} {l3 : Int32} {l4 : Int32} (h : G X (Rm (d + 1)) mX0_fits 34 [(0, .ref r0), (1, .ref r1), (2, .ref r2), (3, .int l3), (4, .int l4), (5, .int (nI 0))] [] μ 0 0 K) : G X (Rm (d + 1)) mX0_fits 31 [(0, .ref r0), (1, .ref r1), (2, .ref r2), (3, .int l3), (4, .int l4)] [] μ 0 0 K := by
  refine G_iconst d_X0_fits_31 ic_0 ?_
  refine G_istore (L' := [(5, .int (nI 0)), (0, .ref r0), (1, .ref r1), (2, .ref r2), (3, .int l3), (4, .int l4)]) d_X0_fits_32 (by decide) rfl ?_
  refine G_sub (L' := [(0, .ref r0), (1, .ref r1), (2, .ref r2), (3, .int l3), (4, .int l4), (5, .int (nI 0))]) [1, 2, 3, 4, 5, 0] rfl ?_
  exact h
theorem b_X0_fits_34 {X : cX} {d : Nat} {μ : mM} {K : Option Value → mM → Prop} {r0 : Nat} {r1 : Nat} {r2 : Nat} {i3 : Nat} {i4 : Nat} {i5 : Nat} (hw5_r1 : WF5 μ r1) (hb : (3 : Int32) ≤ (nI i5) → i4 < 6) (hw5_r2 : WF5 μ r2) (hb_2 : (3 : Int32) ≤ (nI i5) → i3 < 6) (h : (3 : Int32) ≤ (nI i5) → ¬ (e_X0_allows μ (iv μ (r1 + 7 + i4) i4) (iv μ (r2 + 7 + i3) i3)) = 0 → G X (Rm (d + 1)) mX0_fits 102 [(0, .ref r0), (1, .ref r1), (2, .ref r2), (3, .int (nI i3)), (4, .int (nI i4)), (5, .int (nI 0))] [] μ 0 0 K) (hK : (3 : Int32) ≤ (nI i5) → (e_X0_allows μ (iv μ (r1 + 7 + i4) i4) (iv μ (r2 + 7 + i3) i3)) = 0 → K (some (.int 0)) μ) (hb_3 : ¬ (3 : Int32) ≤ (nI i5) → i5 < 3) (hb_4 : ¬ (3 : Int32) ≤ (nI i5) → i4 < 6) (hb_5 : ¬ (3 : Int32) ≤ (nI i5) → i3 < 6) (h_2 : ¬ (3 : Int32) ≤ (nI i5) → ¬ (e_X0_allows μ (iv μ (r1 + 3 + i5) i4) (iv μ (r2 + 3 + i5) i3)) = 0 → G X (Rm (d + 1)) mX0_fits 34 [(0, .ref r0), (1, .ref r1), (2, .ref r2), (3, .int (nI i3)), (4, .int (nI i4)), (5, .int (nI (i5 + 1)))] [] μ 0 0 K) (hK_2 : ¬ (3 : Int32) ≤ (nI i5) → (e_X0_allows μ (iv μ (r1 + 3 + i5) i4) (iv μ (r2 + 3 + i5) i3)) = 0 → K (some (.int 0)) μ) : G X (Rm (d + 1)) mX0_fits 34 [(0, .ref r0), (1, .ref r1), (2, .ref r2), (3, .int (nI i3)), (4, .int (nI i4)), (5, .int (nI i5))] [] μ 0 0 K := by
  refine G_iload d_X0_fits_34 5 rfl ?_
  refine G_iconst d_X0_fits_36 ic_3 ?_
  refine G_icmp_ge (tgt := 73) d_X0_fits_37 rfl (fun c0 => ?_) (fun c0 => ?_)
  ·
    refine G_aload_n d_X0_fits_73 rfl 1 rfl ?_
    refine G_getR (r := r1 + 6) 5 3 (w5_kd hw5_r1) (w5_f3 hw5_r1) cok5 (by decide) rfl fl_X0_49 d_X0_fits_74 ?_
    refine G_iload d_X0_fits_77 4 rfl ?_
    refine G_aaldA (r := r1 + 7 + i4) i4 (w5_k3 hw5_r1) rfl (hb c0) (w5_r3 hw5_r1 i4 (hb c0)) d_X0_fits_79 ?_
    refine G_iload d_X0_fits_80 4 rfl ?_
    refine G_iald i4 (w5_q3 hw5_r1 i4 (hb c0)) rfl (hb c0) d_X0_fits_82 ?_
    refine G_aload_n d_X0_fits_83 rfl 2 rfl ?_
    refine G_getR (r := r2 + 6) 5 3 (w5_kd hw5_r2) (w5_f3 hw5_r2) cok5 (by decide) rfl fl_X0_49 d_X0_fits_84 ?_
    refine G_iload_n d_X0_fits_87 rfl 3 rfl ?_
    refine G_aaldA (r := r2 + 7 + i3) i3 (w5_k3 hw5_r2) rfl (hb_2 c0) (w5_r3 hw5_r2 i3 (hb_2 c0)) d_X0_fits_88 ?_
    refine G_iload_n d_X0_fits_89 rfl 3 rfl ?_
    refine G_iald i3 (w5_q3 hw5_r2 i3 (hb_2 c0)) rfl (hb_2 c0) d_X0_fits_90 ?_
    refine G_callS (M' := mX0_allows) (R' := (Rm d)) (S := []) [.int (iv μ (r1 + 7 + i4) i4), .int (iv μ (r2 + 7 + i3) i3)] ok_X0_allows ml_X0_45 pn_X0_allows (ru_Rm (by decide)) (Nat.le_of_ble_eq_true rfl) d_X0_fits_91 (s_X0_allows (μ := μ)   ?_)
    show G X (Rm (d + 1)) mX0_fits 94 [(0, .ref r0), (1, .ref r1), (2, .ref r2), (3, .int (nI i3)), (4, .int (nI i4)), (5, .int (nI i5))] [.int (e_X0_allows μ (iv μ (r1 + 7 + i4) i4) (iv μ (r2 + 7 + i3) i3))] μ 0 0 K
    refine G_if_ne (tgt := 99) d_X0_fits_94 rfl (fun c1 => ?_) (fun c1 => ?_)
    ·
      refine G_iconst d_X0_fits_99 ic_0 ?_
      refine G_istore (L' := [(5, .int (nI 0)), (0, .ref r0), (1, .ref r1), (2, .ref r2), (3, .int (nI i3)), (4, .int (nI i4))]) d_X0_fits_100 (by decide) rfl ?_
      refine G_sub (L' := [(0, .ref r0), (1, .ref r1), (2, .ref r2), (3, .int (nI i3)), (4, .int (nI i4)), (5, .int (nI 0))]) [1, 2, 3, 4, 5, 0] rfl ?_
      exact (h c0 c1)
    ·
      refine G_iconst d_X0_fits_97 ic_0 ?_
      exact G_zret rfl rfl rfl rfl d_X0_fits_98 (hK c0 c1)
  ·
    refine G_aload_n d_X0_fits_40 rfl 1 rfl ?_
    refine G_getR (r := r1 + 2) 5 2 (w5_kd hw5_r1) (w5_f2 hw5_r1) cok5 (by decide) rfl fl_X0_41 d_X0_fits_41 ?_
    refine G_iload d_X0_fits_44 5 rfl ?_
    refine G_aaldA (r := r1 + 3 + i5) i5 (w5_k2 hw5_r1) rfl (hb_3 c0) (w5_r2 hw5_r1 i5 (hb_3 c0)) d_X0_fits_46 ?_
    refine G_iload d_X0_fits_47 4 rfl ?_
    refine G_iald i4 (w5_q2 hw5_r1 i5 (hb_3 c0)) rfl (hb_4 c0) d_X0_fits_49 ?_
    refine G_aload_n d_X0_fits_50 rfl 2 rfl ?_
    refine G_getR (r := r2 + 2) 5 2 (w5_kd hw5_r2) (w5_f2 hw5_r2) cok5 (by decide) rfl fl_X0_41 d_X0_fits_51 ?_
    refine G_iload d_X0_fits_54 5 rfl ?_
    refine G_aaldA (r := r2 + 3 + i5) i5 (w5_k2 hw5_r2) rfl (hb_3 c0) (w5_r2 hw5_r2 i5 (hb_3 c0)) d_X0_fits_56 ?_
    refine G_iload_n d_X0_fits_57 rfl 3 rfl ?_
    refine G_iald i3 (w5_q2 hw5_r2 i5 (hb_3 c0)) rfl (hb_5 c0) d_X0_fits_58 ?_
    refine G_callS (M' := mX0_allows) (R' := (Rm d)) (S := []) [.int (iv μ (r1 + 3 + i5) i4), .int (iv μ (r2 + 3 + i5) i3)] ok_X0_allows ml_X0_45 pn_X0_allows (ru_Rm (by decide)) (Nat.le_of_ble_eq_true rfl) d_X0_fits_59 (s_X0_allows (μ := μ)   ?_)
    show G X (Rm (d + 1)) mX0_fits 62 [(0, .ref r0), (1, .ref r1), (2, .ref r2), (3, .int (nI i3)), (4, .int (nI i4)), (5, .int (nI i5))] [.int (e_X0_allows μ (iv μ (r1 + 3 + i5) i4) (iv μ (r2 + 3 + i5) i3))] μ 0 0 K
    refine G_if_ne (tgt := 67) d_X0_fits_62 rfl (fun c1 => ?_) (fun c1 => ?_)
    ·
      refine G_iinc (L' := [(5, .int (nI (i5 + 1))), (0, .ref r0), (1, .ref r1), (2, .ref r2), (3, .int (nI i3)), (4, .int (nI i4))]) d_X0_fits_67 5 rfl (inc1 i5) (by decide) rfl ?_
      refine G_goto (tgt := 34) d_X0_fits_70 rfl ?_
      refine G_sub (L' := [(0, .ref r0), (1, .ref r1), (2, .ref r2), (3, .int (nI i3)), (4, .int (nI i4)), (5, .int (nI (i5 + 1)))]) [1, 2, 3, 4, 5, 0] rfl ?_
      exact (h_2 c0 c1)
    ·
      refine G_iconst d_X0_fits_65 ic_0 ?_
      exact G_zret rfl rfl rfl rfl d_X0_fits_66 (hK_2 c0 c1)
theorem b_X0_fits_102 {X : cX} {d : Nat} {μ : mM} {K : Option Value → mM → Prop} {r0 : Nat} {r1 : Nat} {r2 : Nat} {i3 : Nat} {i4 : Nat} {i5 : Nat} {j0 : Nat} (hK : (nI i3) ≤ (nI i5) → K (some (.int 1)) μ) (hw0_r0 : WF0 μ r0) (hb : ¬ (nI i3) ≤ (nI i5) → i5 < 6) (hw5_r1 : WF5 μ r1) (hb_2 : ¬ (nI i3) ≤ (nI i5) → i4 < 6) (hi_j0 : ¬ (nI i3) ≤ (nI i5) → iv μ (r0 + 1) i5 = nI j0) (hb_3 : ¬ (nI i3) ≤ (nI i5) → j0 < 6) (hw5_r2 : WF5 μ r2) (hb_4 : ¬ (nI i3) ≤ (nI i5) → i3 < 6) (hK_2 : ¬ (nI i3) ≤ (nI i5) → (e_X0_allows μ (iv μ (r1 + 7 + i4) j0) (iv μ (r2 + 7 + i3) i5)) = 0 → K (some (.int 0)) μ) (hi_j0_2 : ¬ (nI i3) ≤ (nI i5) → ¬ (e_X0_allows μ (iv μ (r1 + 7 + i4) j0) (iv μ (r2 + 7 + i3) i5)) = 0 → iv μ (r0 + 1) i5 = nI j0) (hb_5 : ¬ (nI i3) ≤ (nI i5) → ¬ (e_X0_allows μ (iv μ (r1 + 7 + i4) j0) (iv μ (r2 + 7 + i3) i5)) = 0 → j0 < 6) (hb_6 : ¬ (nI i3) ≤ (nI i5) → ¬ (e_X0_allows μ (iv μ (r1 + 7 + i4) j0) (iv μ (r2 + 7 + i3) i5)) = 0 → i4 < 6) (hb_7 : ¬ (nI i3) ≤ (nI i5) → ¬ (e_X0_allows μ (iv μ (r1 + 7 + i4) j0) (iv μ (r2 + 7 + i3) i5)) = 0 → i5 < 6) (hb_8 : ¬ (nI i3) ≤ (nI i5) → ¬ (e_X0_allows μ (iv μ (r1 + 7 + i4) j0) (iv μ (r2 + 7 + i3) i5)) = 0 → i3 < 6) (h : ¬ (nI i3) ≤ (nI i5) → ¬ (e_X0_allows μ (iv μ (r1 + 7 + i4) j0) (iv μ (r2 + 7 + i3) i5)) = 0 → ¬ (e_X0_allows μ (iv μ (r1 + 7 + j0) i4) (iv μ (r2 + 7 + i5) i3)) = 0 → G X (Rm (d + 1)) mX0_fits 102 [(0, .ref r0), (1, .ref r1), (2, .ref r2), (3, .int (nI i3)), (4, .int (nI i4)), (5, .int (nI (i5 + 1)))] [] μ 0 0 K) (hK_3 : ¬ (nI i3) ≤ (nI i5) → ¬ (e_X0_allows μ (iv μ (r1 + 7 + i4) j0) (iv μ (r2 + 7 + i3) i5)) = 0 → (e_X0_allows μ (iv μ (r1 + 7 + j0) i4) (iv μ (r2 + 7 + i5) i3)) = 0 → K (some (.int 0)) μ) : G X (Rm (d + 1)) mX0_fits 102 [(0, .ref r0), (1, .ref r1), (2, .ref r2), (3, .int (nI i3)), (4, .int (nI i4)), (5, .int (nI i5))] [] μ 0 0 K := by
  refine G_iload d_X0_fits_102 5 rfl ?_
  refine G_iload_n d_X0_fits_104 rfl 3 rfl ?_
  refine G_icmp_ge (tgt := 175) d_X0_fits_105 rfl (fun c0 => ?_) (fun c0 => ?_)
  ·
    refine G_iconst d_X0_fits_175 ic_1 ?_
    exact G_zret rfl rfl rfl rfl d_X0_fits_176 (hK c0)
  ·
    refine G_aload_n d_X0_fits_108 rfl 0 rfl ?_
    refine G_getR (r := r0 + 1) 0 0 (w0_kd hw0_r0) (w0_f0 hw0_r0) cok0 (by decide) rfl fl_X0_9 d_X0_fits_109 ?_
    refine G_iload d_X0_fits_112 5 rfl ?_
    refine G_iald i5 (w0_k0 hw0_r0) rfl (hb c0) d_X0_fits_114 ?_
    refine G_istore (L' := [(6, .int (iv μ (r0 + 1) i5)), (0, .ref r0), (1, .ref r1), (2, .ref r2), (3, .int (nI i3)), (4, .int (nI i4)), (5, .int (nI i5))]) d_X0_fits_115 (by decide) rfl ?_
    refine G_aload_n d_X0_fits_117 rfl 2 rfl ?_
    refine G_getR (r := r1 + 6) 5 3 (w5_kd hw5_r1) (w5_f3 hw5_r1) cok5 (by decide) rfl fl_X0_49 d_X0_fits_118 ?_
    refine G_iload d_X0_fits_121 5 rfl ?_
    refine G_aaldA (r := r1 + 7 + i4) i4 (w5_k3 hw5_r1) rfl (hb_2 c0) (w5_r3 hw5_r1 i4 (hb_2 c0)) d_X0_fits_123 ?_
    refine G_iload d_X0_fits_124 0 rfl ?_
    refine G_iald j0 (w5_q3 hw5_r1 i4 (hb_2 c0)) (hi_j0 c0) (hb_3 c0) d_X0_fits_126 ?_
    refine G_aload_n d_X0_fits_127 rfl 3 rfl ?_
    refine G_getR (r := r2 + 6) 5 3 (w5_kd hw5_r2) (w5_f3 hw5_r2) cok5 (by decide) rfl fl_X0_49 d_X0_fits_128 ?_
    refine G_iload_n d_X0_fits_131 rfl 4 rfl ?_
    refine G_aaldA (r := r2 + 7 + i3) i3 (w5_k3 hw5_r2) rfl (hb_4 c0) (w5_r3 hw5_r2 i3 (hb_4 c0)) d_X0_fits_132 ?_
    refine G_iload d_X0_fits_133 6 rfl ?_
    refine G_iald i5 (w5_q3 hw5_r2 i3 (hb_4 c0)) rfl (hb c0) d_X0_fits_135 ?_
    refine G_callS (M' := mX0_allows) (R' := (Rm d)) (S := []) [.int (iv μ (r1 + 7 + i4) j0), .int (iv μ (r2 + 7 + i3) i5)] ok_X0_allows ml_X0_45 pn_X0_allows (ru_Rm (by decide)) (Nat.le_of_ble_eq_true rfl) d_X0_fits_136 (s_X0_allows (μ := μ)   ?_)
    show G X (Rm (d + 1)) mX0_fits 139 [(6, .int (iv μ (r0 + 1) i5)), (0, .ref r0), (1, .ref r1), (2, .ref r2), (3, .int (nI i3)), (4, .int (nI i4)), (5, .int (nI i5))] [.int (e_X0_allows μ (iv μ (r1 + 7 + i4) j0) (iv μ (r2 + 7 + i3) i5))] μ 0 0 K
    refine G_if_eq (tgt := 167) d_X0_fits_139 rfl (fun c1 => ?_) (fun c1 => ?_)
    ·
      refine G_iconst d_X0_fits_167 ic_0 ?_
      exact G_zret rfl rfl rfl rfl d_X0_fits_168 (hK_2 c0 c1)
    ·
      refine G_aload_n d_X0_fits_142 rfl 2 rfl ?_
      refine G_getR (r := r1 + 6) 5 3 (w5_kd hw5_r1) (w5_f3 hw5_r1) cok5 (by decide) rfl fl_X0_49 d_X0_fits_143 ?_
      refine G_iload d_X0_fits_146 0 rfl ?_
      refine G_aaldA (r := r1 + 7 + j0) j0 (w5_k3 hw5_r1) (hi_j0_2 c0 c1) (hb_5 c0 c1) (w5_r3 hw5_r1 j0 (hb_5 c0 c1)) d_X0_fits_148 ?_
      refine G_iload d_X0_fits_149 5 rfl ?_
      refine G_iald i4 (w5_q3 hw5_r1 j0 (hb_5 c0 c1)) rfl (hb_6 c0 c1) d_X0_fits_151 ?_
      refine G_aload_n d_X0_fits_152 rfl 3 rfl ?_
      refine G_getR (r := r2 + 6) 5 3 (w5_kd hw5_r2) (w5_f3 hw5_r2) cok5 (by decide) rfl fl_X0_49 d_X0_fits_153 ?_
      refine G_iload d_X0_fits_156 6 rfl ?_
      refine G_aaldA (r := r2 + 7 + i5) i5 (w5_k3 hw5_r2) rfl (hb_7 c0 c1) (w5_r3 hw5_r2 i5 (hb_7 c0 c1)) d_X0_fits_158 ?_
      refine G_iload_n d_X0_fits_159 rfl 4 rfl ?_
      refine G_iald i3 (w5_q3 hw5_r2 i5 (hb_7 c0 c1)) rfl (hb_8 c0 c1) d_X0_fits_160 ?_
      refine G_callS (M' := mX0_allows) (R' := (Rm d)) (S := []) [.int (iv μ (r1 + 7 + j0) i4), .int (iv μ (r2 + 7 + i5) i3)] ok_X0_allows ml_X0_45 pn_X0_allows (ru_Rm (by decide)) (Nat.le_of_ble_eq_true rfl) d_X0_fits_161 (s_X0_allows (μ := μ)   ?_)
      show G X (Rm (d + 1)) mX0_fits 164 [(6, .int (iv μ (r0 + 1) i5)), (0, .ref r0), (1, .ref r1), (2, .ref r2), (3, .int (nI i3)), (4, .int (nI i4)), (5, .int (nI i5))] [.int (e_X0_allows μ (iv μ (r1 + 7 + j0) i4) (iv μ (r2 + 7 + i5) i3))] μ 0 0 K
      refine G_if_ne (tgt := 169) d_X0_fits_164 rfl (fun c2 => ?_) (fun c2 => ?_)
      ·
        refine G_iinc (L' := [(5, .int (nI (i5 + 1))), (6, .int (iv μ (r0 + 1) i5)), (0, .ref r0), (1, .ref r1), (2, .ref r2), (3, .int (nI i3)), (4, .int (nI i4))]) d_X0_fits_169 6 rfl (inc1 i5) (by decide) rfl ?_
        refine G_goto (tgt := 102) d_X0_fits_172 rfl ?_
        refine G_sub (L' := [(0, .ref r0), (1, .ref r1), (2, .ref r2), (3, .int (nI i3)), (4, .int (nI i4)), (5, .int (nI (i5 + 1)))]) [2, 3, 4, 5, 6, 0] rfl ?_
        exact (h c0 c1 c2)
      ·
        refine G_iconst d_X0_fits_167 ic_0 ?_
        exact G_zret rfl rfl rfl rfl d_X0_fits_168 (hK_3 c0 c1 c2)
theorem d_X0_tellFrom_0 : decode cX0_tellFrom 0 = .ok (.iload_n 3, 1) := by decide +kernel
theorem d_X0_tellFrom_1 : decode cX0_tellFrom 1 = .ok (.aload_n 2, 1) := by decide +kernel
theorem d_X0_tellFrom_2 : decode cX0_tellFrom 2 = .ok (.getfield 24, 3) := by decide +kernel
theorem d_X0_tellFrom_5 : decode cX0_tellFrom 5 = .ok (.if_icmp .ge 9, 3) := by decide +kernel
theorem d_X0_tellFrom_8 : decode cX0_tellFrom 8 = .ok (.iload_n 3, 1) := by decide +kernel
theorem d_X0_tellFrom_9 : decode cX0_tellFrom 9 = .ok (.bipush 6, 2) := by decide +kernel
theorem d_X0_tellFrom_11 : decode cX0_tellFrom 11 = .ok (.if_icmp .lt 14, 3) := by decide +kernel
theorem d_X0_tellFrom_14 : decode cX0_tellFrom 14 = .ok (.iload 4, 2) := by decide +kernel
theorem d_X0_tellFrom_16 : decode cX0_tellFrom 16 = .ok (.ifCond .ne 7, 3) := by decide +kernel
theorem d_X0_tellFrom_19 : decode cX0_tellFrom 19 = .ok (.iconst 1, 1) := by decide +kernel
theorem d_X0_tellFrom_20 : decode cX0_tellFrom 20 = .ok (.goto 4, 3) := by decide +kernel
theorem d_X0_tellFrom_23 : decode cX0_tellFrom 23 = .ok (.iconst 0, 1) := by decide +kernel
theorem d_X0_tellFrom_24 : decode cX0_tellFrom 24 = .ok (.ireturn, 1) := by decide +kernel
theorem d_X0_tellFrom_25 : decode cX0_tellFrom 25 = .ok (.aload_n 2, 1) := by decide +kernel
theorem d_X0_tellFrom_26 : decode cX0_tellFrom 26 = .ok (.getfield 24, 3) := by decide +kernel
theorem d_X0_tellFrom_29 : decode cX0_tellFrom 29 = .ok (.iload_n 3, 1) := by decide +kernel
theorem d_X0_tellFrom_30 : decode cX0_tellFrom 30 = .ok (.isub, 1) := by decide +kernel
theorem d_X0_tellFrom_31 : decode cX0_tellFrom 31 = .ok (.iload 4, 2) := by decide +kernel
theorem d_X0_tellFrom_33 : decode cX0_tellFrom 33 = .ok (.if_icmp .ge 5, 3) := by decide +kernel
theorem d_X0_tellFrom_36 : decode cX0_tellFrom 36 = .ok (.iconst 0, 1) := by decide +kernel
theorem d_X0_tellFrom_37 : decode cX0_tellFrom 37 = .ok (.ireturn, 1) := by decide +kernel
theorem d_X0_tellFrom_38 : decode cX0_tellFrom 38 = .ok (.iconst 0, 1) := by decide +kernel
theorem d_X0_tellFrom_39 : decode cX0_tellFrom 39 = .ok (.istore 5, 2) := by decide +kernel
theorem d_X0_tellFrom_41 : decode cX0_tellFrom 41 = .ok (.iload 5, 2) := by decide +kernel
theorem d_X0_tellFrom_43 : decode cX0_tellFrom 43 = .ok (.aload_n 1, 1) := by decide +kernel
theorem d_X0_tellFrom_44 : decode cX0_tellFrom 44 = .ok (.getfield 24, 3) := by decide +kernel
theorem d_X0_tellFrom_47 : decode cX0_tellFrom 47 = .ok (.if_icmp .ge 89, 3) := by decide +kernel
theorem d_X0_tellFrom_50 : decode cX0_tellFrom 50 = .ok (.aload_n 0, 1) := by decide +kernel
theorem d_X0_tellFrom_51 : decode cX0_tellFrom 51 = .ok (.aload_n 1, 1) := by decide +kernel
theorem d_X0_tellFrom_52 : decode cX0_tellFrom 52 = .ok (.aload_n 2, 1) := by decide +kernel
theorem d_X0_tellFrom_53 : decode cX0_tellFrom 53 = .ok (.iload_n 3, 1) := by decide +kernel
theorem d_X0_tellFrom_54 : decode cX0_tellFrom 54 = .ok (.iload 5, 2) := by decide +kernel
theorem d_X0_tellFrom_56 : decode cX0_tellFrom 56 = .ok (.invokevirtual 34, 3) := by decide +kernel
theorem d_X0_tellFrom_59 : decode cX0_tellFrom 59 = .ok (.ifCond .eq 71, 3) := by decide +kernel
theorem d_X0_tellFrom_62 : decode cX0_tellFrom 62 = .ok (.aload_n 0, 1) := by decide +kernel
theorem d_X0_tellFrom_63 : decode cX0_tellFrom 63 = .ok (.getfield 9, 3) := by decide +kernel
theorem d_X0_tellFrom_66 : decode cX0_tellFrom 66 = .ok (.iload_n 3, 1) := by decide +kernel
theorem d_X0_tellFrom_67 : decode cX0_tellFrom 67 = .ok (.iload 5, 2) := by decide +kernel
theorem d_X0_tellFrom_69 : decode cX0_tellFrom 69 = .ok (.iastore, 1) := by decide +kernel
theorem d_X0_tellFrom_70 : decode cX0_tellFrom 70 = .ok (.aload_n 0, 1) := by decide +kernel
theorem d_X0_tellFrom_71 : decode cX0_tellFrom 71 = .ok (.getfield 15, 3) := by decide +kernel
theorem d_X0_tellFrom_74 : decode cX0_tellFrom 74 = .ok (.iload 5, 2) := by decide +kernel
theorem d_X0_tellFrom_76 : decode cX0_tellFrom 76 = .ok (.dup2, 1) := by decide +kernel
theorem d_X0_tellFrom_77 : decode cX0_tellFrom 77 = .ok (.iaload, 1) := by decide +kernel
theorem d_X0_tellFrom_78 : decode cX0_tellFrom 78 = .ok (.iconst 1, 1) := by decide +kernel
theorem d_X0_tellFrom_79 : decode cX0_tellFrom 79 = .ok (.iadd, 1) := by decide +kernel
theorem d_X0_tellFrom_80 : decode cX0_tellFrom 80 = .ok (.iastore, 1) := by decide +kernel
theorem d_X0_tellFrom_81 : decode cX0_tellFrom 81 = .ok (.aload_n 0, 1) := by decide +kernel
theorem d_X0_tellFrom_82 : decode cX0_tellFrom 82 = .ok (.aload_n 1, 1) := by decide +kernel
theorem d_X0_tellFrom_83 : decode cX0_tellFrom 83 = .ok (.aload_n 2, 1) := by decide +kernel
theorem d_X0_tellFrom_84 : decode cX0_tellFrom 84 = .ok (.iload_n 3, 1) := by decide +kernel
theorem d_X0_tellFrom_85 : decode cX0_tellFrom 85 = .ok (.iconst 1, 1) := by decide +kernel
theorem d_X0_tellFrom_86 : decode cX0_tellFrom 86 = .ok (.iadd, 1) := by decide +kernel
theorem d_X0_tellFrom_87 : decode cX0_tellFrom 87 = .ok (.aload_n 0, 1) := by decide +kernel
theorem d_X0_tellFrom_88 : decode cX0_tellFrom 88 = .ok (.getfield 15, 3) := by decide +kernel
theorem d_X0_tellFrom_91 : decode cX0_tellFrom 91 = .ok (.iload 5, 2) := by decide +kernel
theorem d_X0_tellFrom_93 : decode cX0_tellFrom 93 = .ok (.iaload, 1) := by decide +kernel
theorem d_X0_tellFrom_94 : decode cX0_tellFrom 94 = .ok (.iconst 1, 1) := by decide +kernel
theorem d_X0_tellFrom_95 : decode cX0_tellFrom 95 = .ok (.if_icmp .ne 10, 3) := by decide +kernel
theorem d_X0_tellFrom_98 : decode cX0_tellFrom 98 = .ok (.iload 4, 2) := by decide +kernel
theorem d_X0_tellFrom_100 : decode cX0_tellFrom 100 = .ok (.iconst 1, 1) := by decide +kernel
theorem d_X0_tellFrom_101 : decode cX0_tellFrom 101 = .ok (.isub, 1) := by decide +kernel
theorem d_X0_tellFrom_102 : decode cX0_tellFrom 102 = .ok (.goto 5, 3) := by decide +kernel
theorem d_X0_tellFrom_105 : decode cX0_tellFrom 105 = .ok (.iload 4, 2) := by decide +kernel
theorem d_X0_tellFrom_107 : decode cX0_tellFrom 107 = .ok (.invokevirtual 30, 3) := by decide +kernel
theorem d_X0_tellFrom_110 : decode cX0_tellFrom 110 = .ok (.istore 6, 2) := by decide +kernel
theorem d_X0_tellFrom_112 : decode cX0_tellFrom 112 = .ok (.aload_n 0, 1) := by decide +kernel
theorem d_X0_tellFrom_113 : decode cX0_tellFrom 113 = .ok (.getfield 15, 3) := by decide +kernel
theorem d_X0_tellFrom_116 : decode cX0_tellFrom 116 = .ok (.iload 5, 2) := by decide +kernel
theorem d_X0_tellFrom_118 : decode cX0_tellFrom 118 = .ok (.dup2, 1) := by decide +kernel
theorem d_X0_tellFrom_119 : decode cX0_tellFrom 119 = .ok (.iaload, 1) := by decide +kernel
theorem d_X0_tellFrom_120 : decode cX0_tellFrom 120 = .ok (.iconst 1, 1) := by decide +kernel
theorem d_X0_tellFrom_121 : decode cX0_tellFrom 121 = .ok (.isub, 1) := by decide +kernel
theorem d_X0_tellFrom_122 : decode cX0_tellFrom 122 = .ok (.iastore, 1) := by decide +kernel
theorem d_X0_tellFrom_123 : decode cX0_tellFrom 123 = .ok (.iload 6, 2) := by decide +kernel
theorem d_X0_tellFrom_125 : decode cX0_tellFrom 125 = .ok (.ifCond .eq 5, 3) := by decide +kernel
theorem d_X0_tellFrom_128 : decode cX0_tellFrom 128 = .ok (.iconst 1, 1) := by decide +kernel
theorem d_X0_tellFrom_129 : decode cX0_tellFrom 129 = .ok (.ireturn, 1) := by decide +kernel
theorem d_X0_tellFrom_130 : decode cX0_tellFrom 130 = .ok (.iinc 5 1, 3) := by decide +kernel
theorem d_X0_tellFrom_133 : decode cX0_tellFrom 133 = .ok (.goto (-92), 3) := by decide +kernel
theorem d_X0_tellFrom_136 : decode cX0_tellFrom 136 = .ok (.iconst 0, 1) := by decide +kernel
theorem d_X0_tellFrom_137 : decode cX0_tellFrom 137 = .ok (.ireturn, 1) := by decide +kernel
theorem b_X0_tellFrom_0 {X : cX} {d : Nat} {μ : mM} {K : Option Value → mM → Prop} {r0 : Nat} {r1 : Nat} {r2 : Nat} {l3 : Int32} {l4 : Int32} (hw5_r2 : WF5 μ r2) (h : (iv μ r2 0) ≤ l3 → G X (Rm (d + 2)) mX0_tellFrom 14 [(4, .int l4)] [] μ 0 0 K) (h_2 : ¬ (iv μ r2 0) ≤ l3 → l3 < (6 : Int32) → l4 ≤ ((iv μ r2 0) - l3) → G X (Rm (d + 2)) mX0_tellFrom 41 [(0, .ref r0), (1, .ref r1), (2, .ref r2), (3, .int l3), (4, .int l4), (5, .int (nI 0))] [] μ 0 0 K) (hK : ¬ (iv μ r2 0) ≤ l3 → l3 < (6 : Int32) → ¬ l4 ≤ ((iv μ r2 0) - l3) → K (some (.int 0)) μ) (h_3 : ¬ (iv μ r2 0) ≤ l3 → ¬ l3 < (6 : Int32) → G X (Rm (d + 2)) mX0_tellFrom 14 [(4, .int l4)] [] μ 0 0 K) : G X (Rm (d + 2)) mX0_tellFrom 0 [(0, .ref r0), (1, .ref r1), (2, .ref r2), (3, .int l3), (4, .int l4)] [] μ 0 0 K := by
  refine G_iload_n d_X0_tellFrom_0 rfl 3 rfl ?_
  refine G_aload_n d_X0_tellFrom_1 rfl 2 rfl ?_
  refine G_getI 5 0 (w5_kd hw5_r2) cok5 (by decide) rfl fl_X0_24 d_X0_tellFrom_2 ?_
  refine G_icmp_ge (tgt := 14) d_X0_tellFrom_5 rfl (fun c0 => ?_) (fun c0 => ?_)
  ·
    refine G_sub (L' := [(4, .int l4)]) [4] rfl ?_
    exact (h c0)
  ·
    refine G_iload_n d_X0_tellFrom_8 rfl 3 rfl ?_
    refine G_bipush d_X0_tellFrom_9 bp_6 ?_
    refine G_icmp_lt (tgt := 25) d_X0_tellFrom_11 rfl (fun c1 => ?_) (fun c1 => ?_)
    ·
      refine G_aload_n d_X0_tellFrom_25 rfl 2 rfl ?_
      refine G_getI 5 0 (w5_kd hw5_r2) cok5 (by decide) rfl fl_X0_24 d_X0_tellFrom_26 ?_
      refine G_iload_n d_X0_tellFrom_29 rfl 3 rfl ?_
      refine G_isub d_X0_tellFrom_30 ?_
      refine G_iload d_X0_tellFrom_31 4 rfl ?_
      refine G_icmp_ge (tgt := 38) d_X0_tellFrom_33 rfl (fun c2 => ?_) (fun c2 => ?_)
      ·
        refine G_iconst d_X0_tellFrom_38 ic_0 ?_
        refine G_istore (L' := [(5, .int (nI 0)), (0, .ref r0), (1, .ref r1), (2, .ref r2), (3, .int l3), (4, .int l4)]) d_X0_tellFrom_39 (by decide) rfl ?_
        refine G_sub (L' := [(0, .ref r0), (1, .ref r1), (2, .ref r2), (3, .int l3), (4, .int l4), (5, .int (nI 0))]) [1, 2, 3, 4, 5, 0] rfl ?_
        exact (h_2 c0 c1 c2)
      ·
        refine G_iconst d_X0_tellFrom_36 ic_0 ?_
        exact G_zret rfl rfl rfl rfl d_X0_tellFrom_37 (hK c0 c1 c2)
    ·
      refine G_sub (L' := [(4, .int l4)]) [4] rfl ?_
      exact (h_3 c0 c1)
theorem b_X0_tellFrom_14 {X : cX} {d : Nat} {μ : mM} {K : Option Value → mM → Prop} {l4 : Int32} (hK : ¬ l4 = 0 → K (some (.int 0)) μ) (hK_2 : l4 = 0 → K (some (.int 1)) μ) : G X (Rm (d + 2)) mX0_tellFrom 14 [(4, .int l4)] [] μ 0 0 K := by
  refine G_iload d_X0_tellFrom_14 0 rfl ?_
  refine G_if_ne (tgt := 23) d_X0_tellFrom_16 rfl (fun c0 => ?_) (fun c0 => ?_)
  ·
    refine G_iconst d_X0_tellFrom_23 ic_0 ?_
    exact G_zret rfl rfl rfl rfl d_X0_tellFrom_24 (hK c0)
  ·
    refine G_iconst d_X0_tellFrom_19 ic_1 ?_
    refine G_goto (tgt := 24) d_X0_tellFrom_20 rfl ?_
    exact G_zret rfl rfl rfl rfl d_X0_tellFrom_24 (hK_2 c0)
theorem b_X0_tellFrom_41 {X : cX} {d : Nat} {μ : mM} {K : Option Value → mM → Prop} {r0 : Nat} {r1 : Nat} {r2 : Nat} {l3 : Int32} {l4 : Int32} {l5 : Int32} (hw5_r1 : WF5 μ r1) (hK : (iv μ r1 0) ≤ l5 → K (some (.int 0)) μ) (hw0_r0 : WF0 μ r0) (hc_fits : ¬ (iv μ r1 0) ≤ l5 → Ct X (Rm (d + 1)) mX0_fits [.ref r0, .ref r1, .ref r2, .int l3, .int l5] μ (fun r μ2 => G X (Rm (d + 2)) mX0_tellFrom 59 [(0, .ref r0), (1, .ref r1), (2, .ref r2), (3, .int l3), (4, .int l4), (5, .int l5)] (r.toList ++ []) μ2 0 0 K)) : G X (Rm (d + 2)) mX0_tellFrom 41 [(0, .ref r0), (1, .ref r1), (2, .ref r2), (3, .int l3), (4, .int l4), (5, .int l5)] [] μ 0 0 K := by
  refine G_iload d_X0_tellFrom_41 5 rfl ?_
  refine G_aload_n d_X0_tellFrom_43 rfl 1 rfl ?_
  refine G_getI 5 0 (w5_kd hw5_r1) cok5 (by decide) rfl fl_X0_24 d_X0_tellFrom_44 ?_
  refine G_icmp_ge (tgt := 136) d_X0_tellFrom_47 rfl (fun c0 => ?_) (fun c0 => ?_)
  ·
    refine G_iconst d_X0_tellFrom_136 ic_0 ?_
    exact G_zret rfl rfl rfl rfl d_X0_tellFrom_137 (hK c0)
  ·
    refine G_aload_n d_X0_tellFrom_50 rfl 0 rfl ?_
    refine G_aload_n d_X0_tellFrom_51 rfl 1 rfl ?_
    refine G_aload_n d_X0_tellFrom_52 rfl 2 rfl ?_
    refine G_iload_n d_X0_tellFrom_53 rfl 3 rfl ?_
    refine G_iload d_X0_tellFrom_54 5 rfl ?_
    refine G_callV (M' := mX0_fits) (R' := (Rm (d + 1))) (S := []) [.ref r1, .ref r2, .int l3, .int l5] 0 (w0_kd hw0_r0) cok0 rfl ok_X0_fits ml_X0_34 pn_X0_fits (ru_Rm (by decide)) (Nat.le_of_ble_eq_true rfl) d_X0_tellFrom_56 ?_
    exact (hc_fits c0)
theorem b_X0_tellFrom_59 {X : cX} {d : Nat} {μ : mM} {K : Option Value → mM → Prop} {r0 : Nat} {r1 : Nat} {r2 : Nat} {i3 : Nat} {l4 : Int32} {i5 : Nat} {v0 : Int32} (h : v0 = 0 → G X (Rm (d + 2)) mX0_tellFrom 130 [(0, .ref r0), (1, .ref r1), (2, .ref r2), (3, .int (nI i3)), (4, .int l4), (5, .int (nI i5))] [] μ 0 0 K) (hw0_r0 : WF0 μ r0) (hb : ¬ v0 = 0 → i3 < 6) (hb_2 : ¬ v0 = 0 → i5 < 6) (h_2 : ¬ v0 = 0 → ¬ (iv (wi (wi μ (r0 + 1) i3 (nI i5)) (r0 + 2) i5 ((iv (wi μ (r0 + 1) i3 (nI i5)) (r0 + 2) i5) + 1)) (r0 + 2) i5) = (1 : Int32) → G X (Rm (d + 2)) mX0_tellFrom 107 [(0, .ref r0), (1, .ref r1), (2, .ref r2), (3, .int (nI i3)), (4, .int l4), (5, .int (nI i5))] [.int l4, .int ((nI i3) + 1), .ref r2, .ref r1, .ref r0] (wi (wi μ (r0 + 1) i3 (nI i5)) (r0 + 2) i5 ((iv (wi μ (r0 + 1) i3 (nI i5)) (r0 + 2) i5) + 1)) 0 0 K) (h_3 : ¬ v0 = 0 → (iv (wi (wi μ (r0 + 1) i3 (nI i5)) (r0 + 2) i5 ((iv (wi μ (r0 + 1) i3 (nI i5)) (r0 + 2) i5) + 1)) (r0 + 2) i5) = (1 : Int32) → G X (Rm (d + 2)) mX0_tellFrom 107 [(0, .ref r0), (1, .ref r1), (2, .ref r2), (3, .int (nI i3)), (4, .int l4), (5, .int (nI i5))] [.int (l4 - 1), .int ((nI i3) + 1), .ref r2, .ref r1, .ref r0] (wi (wi μ (r0 + 1) i3 (nI i5)) (r0 + 2) i5 ((iv (wi μ (r0 + 1) i3 (nI i5)) (r0 + 2) i5) + 1)) 0 0 K) : G X (Rm (d + 2)) mX0_tellFrom 59 [(0, .ref r0), (1, .ref r1), (2, .ref r2), (3, .int (nI i3)), (4, .int l4), (5, .int (nI i5))] [.int v0] μ 0 0 K := by
  refine G_if_eq (tgt := 130) d_X0_tellFrom_59 rfl (fun c0 => ?_) (fun c0 => ?_)
  ·
    exact (h c0)
  ·
    refine G_aload_n d_X0_tellFrom_62 rfl 0 rfl ?_
    refine G_getR (r := r0 + 1) 0 0 (w0_kd hw0_r0) (w0_f0 hw0_r0) cok0 (by decide) rfl fl_X0_9 d_X0_tellFrom_63 ?_
    refine G_iload_n d_X0_tellFrom_66 rfl 3 rfl ?_
    refine G_iload d_X0_tellFrom_67 5 rfl ?_
    refine G_iast i3 (w0_k0 hw0_r0) rfl (hb c0) d_X0_tellFrom_69 ?_
    refine G_aload_n d_X0_tellFrom_70 rfl 0 rfl ?_
    refine G_getR (r := r0 + 2) 0 1 (w0_kd hw0_r0) (w0_f1 hw0_r0) cok0 (by decide) rfl fl_X0_15 d_X0_tellFrom_71 ?_
    refine G_iload d_X0_tellFrom_74 5 rfl ?_
    refine G_dup2_11 d_X0_tellFrom_76 rfl rfl ?_
    refine G_iald i5 (w0_k1 hw0_r0) rfl (hb_2 c0) d_X0_tellFrom_77 ?_
    refine G_iconst d_X0_tellFrom_78 ic_1 ?_
    refine G_iadd d_X0_tellFrom_79 ?_
    refine G_iast i5 (w0_k1 hw0_r0) rfl (hb_2 c0) d_X0_tellFrom_80 ?_
    refine G_aload_n d_X0_tellFrom_81 rfl 0 rfl ?_
    refine G_aload_n d_X0_tellFrom_82 rfl 1 rfl ?_
    refine G_aload_n d_X0_tellFrom_83 rfl 2 rfl ?_
    refine G_iload_n d_X0_tellFrom_84 rfl 3 rfl ?_
    refine G_iconst d_X0_tellFrom_85 ic_1 ?_
    refine G_iadd d_X0_tellFrom_86 ?_
    refine G_aload_n d_X0_tellFrom_87 rfl 0 rfl ?_
    refine G_getR (r := r0 + 2) 0 1 (w0_kd hw0_r0) (w0_f1 hw0_r0) cok0 (by decide) rfl fl_X0_15 d_X0_tellFrom_88 ?_
    refine G_iload d_X0_tellFrom_91 5 rfl ?_
    refine G_iald i5 (w0_k1 hw0_r0) rfl (hb_2 c0) d_X0_tellFrom_93 ?_
    refine G_iconst d_X0_tellFrom_94 ic_1 ?_
    refine G_icmp_ne (tgt := 105) d_X0_tellFrom_95 rfl (fun c1 => ?_) (fun c1 => ?_)
    ·
      refine G_iload d_X0_tellFrom_105 4 rfl ?_
      exact (h_2 c0 c1)
    ·
      refine G_iload d_X0_tellFrom_98 4 rfl ?_
      refine G_iconst d_X0_tellFrom_100 ic_1 ?_
      refine G_isub d_X0_tellFrom_101 ?_
      refine G_goto (tgt := 107) d_X0_tellFrom_102 rfl ?_
      exact (h_3 c0 c1)
theorem b_X0_tellFrom_107 {X : cX} {d : Nat} {μ : mM} {K : Option Value → mM → Prop} {r0 : Nat} {r1 : Nat} {r2 : Nat} {l3 : Int32} {l4 : Int32} {l5 : Int32} {q0 : Nat} {q1 : Nat} {q2 : Nat} {v3 : Int32} {v4 : Int32} (hw0_q0 : WF0 μ q0) (hc_tellFrom : Ct X (Rm (d + 1)) mX0_tellFrom [.ref q0, .ref q1, .ref q2, .int v3, .int v4] μ (fun r μ2 => G X (Rm (d + 2)) mX0_tellFrom 110 [(0, .ref r0), (1, .ref r1), (2, .ref r2), (3, .int l3), (4, .int l4), (5, .int l5)] (r.toList ++ []) μ2 0 0 K)) : G X (Rm (d + 2)) mX0_tellFrom 107 [(0, .ref r0), (1, .ref r1), (2, .ref r2), (3, .int l3), (4, .int l4), (5, .int l5)] [.int v4, .int v3, .ref q2, .ref q1, .ref q0] μ 0 0 K := by
  refine G_callV (M' := mX0_tellFrom) (R' := (Rm (d + 1))) (S := []) [.ref q1, .ref q2, .int v3, .int v4] 0 (w0_kd hw0_q0) cok0 rfl ok_X0_tellFrom ml_X0_30 pn_X0_tellFrom (ru_Rm (by decide)) (Nat.le_of_ble_eq_true rfl) d_X0_tellFrom_107 ?_
  exact hc_tellFrom
theorem b_X0_tellFrom_110 {X : cX} {d : Nat} {μ : mM} {K : Option Value → mM → Prop} {r0 : Nat} {r1 : Nat} {r2 : Nat} {l3 : Int32} {l4 : Int32} {i5 : Nat} {v0 : Int32} (hw0_r0 : WF0 μ r0) (hb : i5 < 6) (h : v0 = 0 → G X (Rm (d + 2)) mX0_tellFrom 130 [(0, .ref r0), (1, .ref r1), (2, .ref r2), (3, .int l3), (4, .int l4), (5, .int (nI i5))] [] (wi μ (r0 + 2) i5 ((iv μ (r0 + 2) i5) - 1)) 0 0 K) (hK : ¬ v0 = 0 → K (some (.int 1)) (wi μ (r0 + 2) i5 ((iv μ (r0 + 2) i5) - 1))) : G X (Rm (d + 2)) mX0_tellFrom 110 [(0, .ref r0), (1, .ref r1), (2, .ref r2), (3, .int l3), (4, .int l4), (5, .int (nI i5))] [.int v0] μ 0 0 K := by
  refine G_istore (L' := [(6, .int v0), (0, .ref r0), (1, .ref r1), (2, .ref r2), (3, .int l3), (4, .int l4), (5, .int (nI i5))]) d_X0_tellFrom_110 (by decide) rfl ?_
  refine G_aload_n d_X0_tellFrom_112 rfl 1 rfl ?_
  refine G_getR (r := r0 + 2) 0 1 (w0_kd hw0_r0) (w0_f1 hw0_r0) cok0 (by decide) rfl fl_X0_15 d_X0_tellFrom_113 ?_
  refine G_iload d_X0_tellFrom_116 6 rfl ?_
  refine G_dup2_11 d_X0_tellFrom_118 rfl rfl ?_
  refine G_iald i5 (w0_k1 hw0_r0) rfl hb d_X0_tellFrom_119 ?_
  refine G_iconst d_X0_tellFrom_120 ic_1 ?_
  refine G_isub d_X0_tellFrom_121 ?_
  refine G_iast i5 (w0_k1 hw0_r0) rfl hb d_X0_tellFrom_122 ?_
  refine G_iload d_X0_tellFrom_123 0 rfl ?_
  refine G_if_eq (tgt := 130) d_X0_tellFrom_125 rfl (fun c0 => ?_) (fun c0 => ?_)
  ·
    refine G_sub (L' := [(0, .ref r0), (1, .ref r1), (2, .ref r2), (3, .int l3), (4, .int l4), (5, .int (nI i5))]) [1, 2, 3, 4, 5, 6] rfl ?_
    exact (h c0)
  ·
    refine G_iconst d_X0_tellFrom_128 ic_1 ?_
    exact G_zret rfl rfl rfl rfl d_X0_tellFrom_129 (hK c0)
theorem b_X0_tellFrom_130 {X : cX} {d : Nat} {μ : mM} {K : Option Value → mM → Prop} {r0 : Nat} {r1 : Nat} {r2 : Nat} {l3 : Int32} {l4 : Int32} {i5 : Nat} (h : G X (Rm (d + 2)) mX0_tellFrom 41 [(0, .ref r0), (1, .ref r1), (2, .ref r2), (3, .int l3), (4, .int l4), (5, .int (nI (i5 + 1)))] [] μ 0 0 K) : G X (Rm (d + 2)) mX0_tellFrom 130 [(0, .ref r0), (1, .ref r1), (2, .ref r2), (3, .int l3), (4, .int l4), (5, .int (nI i5))] [] μ 0 0 K := by
  refine G_iinc (L' := [(5, .int (nI (i5 + 1))), (0, .ref r0), (1, .ref r1), (2, .ref r2), (3, .int l3), (4, .int l4)]) d_X0_tellFrom_130 5 rfl (inc1 i5) (by decide) rfl ?_
  refine G_goto (tgt := 41) d_X0_tellFrom_133 rfl ?_
  refine G_sub (L' := [(0, .ref r0), (1, .ref r1), (2, .ref r2), (3, .int l3), (4, .int l4), (5, .int (nI (i5 + 1)))]) [1, 2, 3, 4, 5, 0] rfl ?_
  exact h
theorem d_X0_holds_0 : decode cX0_holds 0 = .ok (.aload_n 0, 1) := by decide +kernel
theorem d_X0_holds_1 : decode cX0_holds 1 = .ok (.getfield 15, 3) := by decide +kernel
theorem d_X0_holds_4 : decode cX0_holds 4 = .ok (.iconst 0, 1) := by decide +kernel
theorem d_X0_holds_5 : decode cX0_holds 5 = .ok (.invokestatic 18, 3) := by decide +kernel
theorem d_X0_holds_8 : decode cX0_holds 8 = .ok (.aload_n 0, 1) := by decide +kernel
theorem d_X0_holds_9 : decode cX0_holds 9 = .ok (.aload_n 1, 1) := by decide +kernel
theorem d_X0_holds_10 : decode cX0_holds 10 = .ok (.aload_n 2, 1) := by decide +kernel
theorem d_X0_holds_11 : decode cX0_holds 11 = .ok (.iconst 0, 1) := by decide +kernel
theorem d_X0_holds_12 : decode cX0_holds 12 = .ok (.aload_n 1, 1) := by decide +kernel
theorem d_X0_holds_13 : decode cX0_holds 13 = .ok (.getfield 24, 3) := by decide +kernel
theorem d_X0_holds_16 : decode cX0_holds 16 = .ok (.invokevirtual 30, 3) := by decide +kernel
theorem d_X0_holds_19 : decode cX0_holds 19 = .ok (.ireturn, 1) := by decide +kernel
theorem b_X0_holds_0 {X : cX} {d : Nat} {μ : mM} {K : Option Value → mM → Prop} {r0 : Nat} {r1 : Nat} {r2 : Nat} (hw0_r0 : WF0 μ r0) (hc_fill : Ct X (Rm (d + 2)) mJ7_fill_53178 [.ref (r0 + 2), .int 0] μ (fun r μ2 => G X (Rm (d + 3)) mX0_holds 8 [(0, .ref r0), (1, .ref r1), (2, .ref r2)] (r.toList ++ []) μ2 0 0 K)) : G X (Rm (d + 3)) mX0_holds 0 [(0, .ref r0), (1, .ref r1), (2, .ref r2)] [] μ 0 0 K := by
  refine G_aload_n d_X0_holds_0 rfl 0 rfl ?_
  refine G_getR (r := r0 + 2) 0 1 (w0_kd hw0_r0) (w0_f1 hw0_r0) cok0 (by decide) rfl fl_X0_15 d_X0_holds_1 ?_
  refine G_iconst d_X0_holds_4 ic_0 ?_
  refine G_callS (M' := mJ7_fill_53178) (R' := (Rm (d + 2))) (S := []) [.ref (r0 + 2), .int 0] ok_J7_fill_53178 ml_X0_18 pn_J7_fill_53178 (ru_Rm (by decide)) (Nat.le_of_ble_eq_true rfl) d_X0_holds_5 ?_
  exact hc_fill
theorem b_X0_holds_8 {X : cX} {d : Nat} {μ : mM} {K : Option Value → mM → Prop} {r0 : Nat} {r1 : Nat} {r2 : Nat} (hw5_r1 : WF5 μ r1) (hw0_r0 : WF0 μ r0) (hc_tellFrom : Ct X (Rm (d + 2)) mX0_tellFrom [.ref r0, .ref r1, .ref r2, .int 0, .int (iv μ r1 0)] μ (fun r μ2 => G X (Rm (d + 3)) mX0_holds 19 [] (r.toList ++ []) μ2 0 0 K)) : G X (Rm (d + 3)) mX0_holds 8 [(0, .ref r0), (1, .ref r1), (2, .ref r2)] [] μ 0 0 K := by
  refine G_aload_n d_X0_holds_8 rfl 0 rfl ?_
  refine G_aload_n d_X0_holds_9 rfl 1 rfl ?_
  refine G_aload_n d_X0_holds_10 rfl 2 rfl ?_
  refine G_iconst d_X0_holds_11 ic_0 ?_
  refine G_aload_n d_X0_holds_12 rfl 1 rfl ?_
  refine G_getI 5 0 (w5_kd hw5_r1) cok5 (by decide) rfl fl_X0_24 d_X0_holds_13 ?_
  refine G_sub (L' := []) [] rfl ?_
  refine G_callV (M' := mX0_tellFrom) (R' := (Rm (d + 2))) (S := []) [.ref r1, .ref r2, .int 0, .int (iv μ r1 0)] 0 (w0_kd hw0_r0) cok0 rfl ok_X0_tellFrom ml_X0_30 pn_X0_tellFrom (ru_Rm (by decide)) (Nat.le_of_ble_eq_true rfl) d_X0_holds_16 ?_
  exact hc_tellFrom
theorem b_X0_holds_19 {X : cX} {d : Nat} {μ : mM} {K : Option Value → mM → Prop} {v0 : Int32} (hK : K (some (.int v0)) μ) (hz : v0 = 0 ∨ v0 = 1) : G X (Rm (d + 3)) mX0_holds 19 [] [.int v0] μ 0 0 K := by
  exact G_zret rfl (nar_b hz) rfl rfl d_X0_holds_19 hK
theorem d_X11_isVariable_0 : decode cX11_isVariable 0 = .ok (.iload_n 0, 1) := by decide +kernel
theorem d_X11_isVariable_1 : decode cX11_isVariable 1 = .ok (.ifCond .lt 12, 3) := by decide +kernel
theorem d_X11_isVariable_4 : decode cX11_isVariable 4 = .ok (.iload_n 0, 1) := by decide +kernel
theorem d_X11_isVariable_5 : decode cX11_isVariable 5 = .ok (.iconst 3, 1) := by decide +kernel
theorem d_X11_isVariable_6 : decode cX11_isVariable 6 = .ok (.if_icmp .ge 7, 3) := by decide +kernel
theorem d_X11_isVariable_9 : decode cX11_isVariable 9 = .ok (.iconst 1, 1) := by decide +kernel
theorem d_X11_isVariable_10 : decode cX11_isVariable 10 = .ok (.goto 4, 3) := by decide +kernel
theorem d_X11_isVariable_13 : decode cX11_isVariable 13 = .ok (.iconst 0, 1) := by decide +kernel
theorem d_X11_isVariable_14 : decode cX11_isVariable 14 = .ok (.ireturn, 1) := by decide +kernel
theorem b_X11_isVariable_0 {X : cX} {d : Nat} {μ : mM} {K : Option Value → mM → Prop} {l0 : Int32} (hK : l0 < 0 → K (some (.int 0)) μ) (hK_2 : ¬ l0 < 0 → (3 : Int32) ≤ l0 → K (some (.int 0)) μ) (hK_3 : ¬ l0 < 0 → ¬ (3 : Int32) ≤ l0 → K (some (.int 1)) μ) : G X (Rm d) mX11_isVariable 0 [(0, .int l0)] [] μ 0 0 K := by
  refine G_iload_n d_X11_isVariable_0 rfl 0 rfl ?_
  refine G_if_lt (tgt := 13) d_X11_isVariable_1 rfl (fun c0 => ?_) (fun c0 => ?_)
  ·
    refine G_iconst d_X11_isVariable_13 ic_0 ?_
    exact G_zret rfl rfl rfl rfl d_X11_isVariable_14 (hK c0)
  ·
    refine G_iload_n d_X11_isVariable_4 rfl 0 rfl ?_
    refine G_iconst d_X11_isVariable_5 ic_3 ?_
    refine G_icmp_ge (tgt := 13) d_X11_isVariable_6 rfl (fun c1 => ?_) (fun c1 => ?_)
    ·
      refine G_iconst d_X11_isVariable_13 ic_0 ?_
      exact G_zret rfl rfl rfl rfl d_X11_isVariable_14 (hK_2 c0 c1)
    ·
      refine G_iconst d_X11_isVariable_9 ic_1 ?_
      refine G_goto (tgt := 14) d_X11_isVariable_10 rfl ?_
      exact G_zret rfl rfl rfl rfl d_X11_isVariable_14 (hK_3 c0 c1)
def e_X11_isVariable (μ : mM) (l0 : Int32) : Int32 := (if l0 < 0 then 0 else (if (3 : Int32) ≤ l0 then 0 else 1))
theorem s_X11_isVariable {X : cX} {d : Nat} {μ : mM} {K : Option Value → mM → Prop} {l0 : Int32}  (hK : K (some (.int (e_X11_isVariable μ l0))) μ) : Ct X (Rm d) mX11_isVariable [.int l0] μ K := Ct_of rfl (Nat.le_of_ble_eq_true rfl) (G_sub [0] rfl (b_X11_isVariable_0 (fun c0 => by unfold e_X11_isVariable at hK; rw [if_pos c0] at hK; exact hK) (fun c0 c1 => by unfold e_X11_isVariable at hK; rw [if_neg c0, if_pos c1] at hK; exact hK) (fun c0 c1 => by unfold e_X11_isVariable at hK; rw [if_neg c0, if_neg c1] at hK; exact hK)))
theorem d_X1_looksAtOther_0 : decode cX1_looksAtOther 0 = .ok (.iload_n 0, 1) := by decide +kernel
theorem d_X1_looksAtOther_1 : decode cX1_looksAtOther 1 = .ok (.iconst 1, 1) := by decide +kernel
theorem d_X1_looksAtOther_2 : decode cX1_looksAtOther 2 = .ok (.if_icmp .eq 13, 3) := by decide +kernel
theorem d_X1_looksAtOther_5 : decode cX1_looksAtOther 5 = .ok (.iload_n 0, 1) := by decide +kernel
theorem d_X1_looksAtOther_6 : decode cX1_looksAtOther 6 = .ok (.iconst 2, 1) := by decide +kernel
theorem d_X1_looksAtOther_7 : decode cX1_looksAtOther 7 = .ok (.if_icmp .eq 8, 3) := by decide +kernel
theorem d_X1_looksAtOther_10 : decode cX1_looksAtOther 10 = .ok (.iload_n 0, 1) := by decide +kernel
theorem d_X1_looksAtOther_11 : decode cX1_looksAtOther 11 = .ok (.iconst 4, 1) := by decide +kernel
theorem d_X1_looksAtOther_12 : decode cX1_looksAtOther 12 = .ok (.if_icmp .ne 7, 3) := by decide +kernel
theorem d_X1_looksAtOther_15 : decode cX1_looksAtOther 15 = .ok (.iconst 1, 1) := by decide +kernel
theorem d_X1_looksAtOther_16 : decode cX1_looksAtOther 16 = .ok (.goto 4, 3) := by decide +kernel
theorem d_X1_looksAtOther_19 : decode cX1_looksAtOther 19 = .ok (.iconst 0, 1) := by decide +kernel
theorem d_X1_looksAtOther_20 : decode cX1_looksAtOther 20 = .ok (.ireturn, 1) := by decide +kernel
theorem b_X1_looksAtOther_0 {X : cX} {d : Nat} {μ : mM} {K : Option Value → mM → Prop} {l0 : Int32} (hK : l0 = (1 : Int32) → K (some (.int 1)) μ) (hK_2 : ¬ l0 = (1 : Int32) → l0 = (2 : Int32) → K (some (.int 1)) μ) (hK_3 : ¬ l0 = (1 : Int32) → ¬ l0 = (2 : Int32) → ¬ l0 = (4 : Int32) → K (some (.int 0)) μ) (hK_4 : ¬ l0 = (1 : Int32) → ¬ l0 = (2 : Int32) → l0 = (4 : Int32) → K (some (.int 1)) μ) : G X (Rm d) mX1_looksAtOther 0 [(0, .int l0)] [] μ 0 0 K := by
  refine G_iload_n d_X1_looksAtOther_0 rfl 0 rfl ?_
  refine G_iconst d_X1_looksAtOther_1 ic_1 ?_
  refine G_icmp_eq (tgt := 15) d_X1_looksAtOther_2 rfl (fun c0 => ?_) (fun c0 => ?_)
  ·
    refine G_iconst d_X1_looksAtOther_15 ic_1 ?_
    refine G_goto (tgt := 20) d_X1_looksAtOther_16 rfl ?_
    exact G_zret rfl rfl rfl rfl d_X1_looksAtOther_20 (hK c0)
  ·
    refine G_iload_n d_X1_looksAtOther_5 rfl 0 rfl ?_
    refine G_iconst d_X1_looksAtOther_6 ic_2 ?_
    refine G_icmp_eq (tgt := 15) d_X1_looksAtOther_7 rfl (fun c1 => ?_) (fun c1 => ?_)
    ·
      refine G_iconst d_X1_looksAtOther_15 ic_1 ?_
      refine G_goto (tgt := 20) d_X1_looksAtOther_16 rfl ?_
      exact G_zret rfl rfl rfl rfl d_X1_looksAtOther_20 (hK_2 c0 c1)
    ·
      refine G_iload_n d_X1_looksAtOther_10 rfl 0 rfl ?_
      refine G_iconst d_X1_looksAtOther_11 ic_4 ?_
      refine G_icmp_ne (tgt := 19) d_X1_looksAtOther_12 rfl (fun c2 => ?_) (fun c2 => ?_)
      ·
        refine G_iconst d_X1_looksAtOther_19 ic_0 ?_
        exact G_zret rfl rfl rfl rfl d_X1_looksAtOther_20 (hK_3 c0 c1 c2)
      ·
        refine G_iconst d_X1_looksAtOther_15 ic_1 ?_
        refine G_goto (tgt := 20) d_X1_looksAtOther_16 rfl ?_
        exact G_zret rfl rfl rfl rfl d_X1_looksAtOther_20 (hK_4 c0 c1 c2)
def e_X1_looksAtOther (μ : mM) (l0 : Int32) : Int32 := (if l0 = (1 : Int32) then 1 else (if l0 = (2 : Int32) then 1 else (if l0 = (4 : Int32) then 1 else 0)))
theorem s_X1_looksAtOther {X : cX} {d : Nat} {μ : mM} {K : Option Value → mM → Prop} {l0 : Int32}  (hK : K (some (.int (e_X1_looksAtOther μ l0))) μ) : Ct X (Rm d) mX1_looksAtOther [.int l0] μ K := Ct_of rfl (Nat.le_of_ble_eq_true rfl) (G_sub [0] rfl (b_X1_looksAtOther_0 (fun c0 => by unfold e_X1_looksAtOther at hK; rw [if_pos c0] at hK; exact hK) (fun c0 c1 => by unfold e_X1_looksAtOther at hK; rw [if_neg c0, if_pos c1] at hK; exact hK) (fun c0 c1 c2 => by unfold e_X1_looksAtOther at hK; rw [if_neg c0, if_neg c1, if_neg c2] at hK; exact hK) (fun c0 c1 c2 => by unfold e_X1_looksAtOther at hK; rw [if_neg c0, if_neg c1, if_pos c2] at hK; exact hK)))
theorem d_X5_isFull_0 : decode cX5_isFull 0 = .ok (.aload_n 0, 1) := by decide +kernel
theorem d_X5_isFull_1 : decode cX5_isFull 1 = .ok (.getfield 29, 3) := by decide +kernel
theorem d_X5_isFull_4 : decode cX5_isFull 4 = .ok (.bipush 6, 2) := by decide +kernel
theorem d_X5_isFull_6 : decode cX5_isFull 6 = .ok (.if_icmp .lt 7, 3) := by decide +kernel
theorem d_X5_isFull_9 : decode cX5_isFull 9 = .ok (.iconst 1, 1) := by decide +kernel
theorem d_X5_isFull_10 : decode cX5_isFull 10 = .ok (.goto 4, 3) := by decide +kernel
theorem d_X5_isFull_13 : decode cX5_isFull 13 = .ok (.iconst 0, 1) := by decide +kernel
theorem d_X5_isFull_14 : decode cX5_isFull 14 = .ok (.ireturn, 1) := by decide +kernel
theorem b_X5_isFull_0 {X : cX} {d : Nat} {μ : mM} {K : Option Value → mM → Prop} {r0 : Nat} (hw5_r0 : WF5 μ r0) (hK : (iv μ r0 0) < (6 : Int32) → K (some (.int 0)) μ) (hK_2 : ¬ (iv μ r0 0) < (6 : Int32) → K (some (.int 1)) μ) : G X (Rm d) mX5_isFull 0 [(0, .ref r0)] [] μ 0 0 K := by
  refine G_aload_n d_X5_isFull_0 rfl 0 rfl ?_
  refine G_getI 5 0 (w5_kd hw5_r0) cok5 (by decide) rfl fl_X5_29 d_X5_isFull_1 ?_
  refine G_bipush d_X5_isFull_4 bp_6 ?_
  refine G_icmp_lt (tgt := 13) d_X5_isFull_6 rfl (fun c0 => ?_) (fun c0 => ?_)
  ·
    refine G_iconst d_X5_isFull_13 ic_0 ?_
    exact G_zret rfl rfl rfl rfl d_X5_isFull_14 (hK c0)
  ·
    refine G_iconst d_X5_isFull_9 ic_1 ?_
    refine G_goto (tgt := 14) d_X5_isFull_10 rfl ?_
    exact G_zret rfl rfl rfl rfl d_X5_isFull_14 (hK_2 c0)
def e_X5_isFull (μ : mM) (r0 : Nat) : Int32 := (if (iv μ r0 0) < (6 : Int32) then 0 else 1)
theorem s_X5_isFull {X : cX} {d : Nat} {μ : mM} {K : Option Value → mM → Prop} {r0 : Nat} (hw5_r0 : WF5 μ r0) (hK : K (some (.int (e_X5_isFull μ r0))) μ) : Ct X (Rm d) mX5_isFull [.ref r0] μ K := Ct_of rfl (Nat.le_of_ble_eq_true rfl) (G_sub [0] rfl (b_X5_isFull_0 hw5_r0 (fun c0 => by unfold e_X5_isFull at hK; rw [if_pos c0] at hK; exact hK) (fun c0 => by unfold e_X5_isFull at hK; rw [if_neg c0] at hK; exact hK)))
theorem d_X5_holding_0 : decode cX5_holding 0 = .ok (.iconst 0, 1) := by decide +kernel
theorem d_X5_holding_1 : decode cX5_holding 1 = .ok (.istore_n 2, 1) := by decide +kernel
theorem d_X5_holding_2 : decode cX5_holding 2 = .ok (.iconst 0, 1) := by decide +kernel
theorem d_X5_holding_3 : decode cX5_holding 3 = .ok (.istore_n 3, 1) := by decide +kernel
theorem d_X5_holding_4 : decode cX5_holding 4 = .ok (.iload_n 3, 1) := by decide +kernel
theorem d_X5_holding_5 : decode cX5_holding 5 = .ok (.aload_n 0, 1) := by decide +kernel
theorem d_X5_holding_6 : decode cX5_holding 6 = .ok (.getfield 29, 3) := by decide +kernel
theorem d_X5_holding_9 : decode cX5_holding 9 = .ok (.if_icmp .ge 22, 3) := by decide +kernel
theorem d_X5_holding_12 : decode cX5_holding 12 = .ok (.iload_n 2, 1) := by decide +kernel
theorem d_X5_holding_13 : decode cX5_holding 13 = .ok (.aload_n 0, 1) := by decide +kernel
theorem d_X5_holding_14 : decode cX5_holding 14 = .ok (.getfield 17, 3) := by decide +kernel
theorem d_X5_holding_17 : decode cX5_holding 17 = .ok (.iload_n 1, 1) := by decide +kernel
theorem d_X5_holding_18 : decode cX5_holding 18 = .ok (.aaload, 1) := by decide +kernel
theorem d_X5_holding_19 : decode cX5_holding 19 = .ok (.iload_n 3, 1) := by decide +kernel
theorem d_X5_holding_20 : decode cX5_holding 20 = .ok (.iaload, 1) := by decide +kernel
theorem d_X5_holding_21 : decode cX5_holding 21 = .ok (.invokestatic 52, 3) := by decide +kernel
theorem d_X5_holding_24 : decode cX5_holding 24 = .ok (.istore_n 2, 1) := by decide +kernel
theorem d_X5_holding_25 : decode cX5_holding 25 = .ok (.iinc 3 1, 3) := by decide +kernel
theorem d_X5_holding_28 : decode cX5_holding 28 = .ok (.goto (-24), 3) := by decide +kernel
theorem d_X5_holding_31 : decode cX5_holding 31 = .ok (.iload_n 2, 1) := by decide +kernel
theorem d_X5_holding_32 : decode cX5_holding 32 = .ok (.ireturn, 1) := by decide +kernel
theorem b_X5_holding_0 {X : cX} {d : Nat} {μ : mM} {K : Option Value → mM → Prop} {r0 : Nat} {l1 : Int32} (h : G X (Rm (d + 1)) mX5_holding 4 [(0, .ref r0), (1, .int l1), (2, .int 0), (3, .int (nI 0))] [] μ 0 0 K) : G X (Rm (d + 1)) mX5_holding 0 [(0, .ref r0), (1, .int l1)] [] μ 0 0 K := by
  refine G_iconst d_X5_holding_0 ic_0 ?_
  refine G_istore_n (L' := [(2, .int 0), (0, .ref r0), (1, .int l1)]) d_X5_holding_1 rfl (by decide) rfl ?_
  refine G_iconst d_X5_holding_2 ic_0 ?_
  refine G_istore_n (L' := [(3, .int (nI 0)), (2, .int 0), (0, .ref r0), (1, .int l1)]) d_X5_holding_3 rfl (by decide) rfl ?_
  refine G_sub (L' := [(0, .ref r0), (1, .int l1), (2, .int 0), (3, .int (nI 0))]) [2, 3, 1, 0] rfl ?_
  exact h
theorem b_X5_holding_4 {X : cX} {d : Nat} {μ : mM} {K : Option Value → mM → Prop} {r0 : Nat} {i1 : Nat} {l2 : Int32} {i3 : Nat} (hw5_r0 : WF5 μ r0) (hK : (iv μ r0 0) ≤ (nI i3) → K (some (.int l2)) μ) (hb : ¬ (iv μ r0 0) ≤ (nI i3) → i1 < 3) (hb_2 : ¬ (iv μ r0 0) ≤ (nI i3) → i3 < 6) (h : ¬ (iv μ r0 0) ≤ (nI i3) → G X (Rm (d + 1)) mX5_holding 4 [(0, .ref r0), (1, .int (nI i1)), (2, .int (if l2 < iv μ (r0 + 3 + i1) i3 then iv μ (r0 + 3 + i1) i3 else l2)), (3, .int (nI (i3 + 1)))] [] μ 0 0 K) : G X (Rm (d + 1)) mX5_holding 4 [(0, .ref r0), (1, .int (nI i1)), (2, .int l2), (3, .int (nI i3))] [] μ 0 0 K := by
  refine G_iload_n d_X5_holding_4 rfl 3 rfl ?_
  refine G_aload_n d_X5_holding_5 rfl 0 rfl ?_
  refine G_getI 5 0 (w5_kd hw5_r0) cok5 (by decide) rfl fl_X5_29 d_X5_holding_6 ?_
  refine G_icmp_ge (tgt := 31) d_X5_holding_9 rfl (fun c0 => ?_) (fun c0 => ?_)
  ·
    refine G_iload_n d_X5_holding_31 rfl 2 rfl ?_
    exact G_iret rfl rfl rfl d_X5_holding_32 (hK c0)
  ·
    refine G_iload_n d_X5_holding_12 rfl 2 rfl ?_
    refine G_aload_n d_X5_holding_13 rfl 0 rfl ?_
    refine G_getR (r := r0 + 2) 5 2 (w5_kd hw5_r0) (w5_f2 hw5_r0) cok5 (by decide) rfl fl_X5_17 d_X5_holding_14 ?_
    refine G_iload_n d_X5_holding_17 rfl 1 rfl ?_
    refine G_aaldA (r := r0 + 3 + i1) i1 (w5_k2 hw5_r0) rfl (hb c0) (w5_r2 hw5_r0 i1 (hb c0)) d_X5_holding_18 ?_
    refine G_iload_n d_X5_holding_19 rfl 3 rfl ?_
    refine G_iald i3 (w5_q2 hw5_r0 i1 (hb c0)) rfl (hb_2 c0) d_X5_holding_20 ?_
    refine G_max ml_X5_52 rb_Rm (Nat.le_of_ble_eq_true rfl) d_X5_holding_21 ?_
    refine G_istore_n (L' := [(2, .int (if l2 < iv μ (r0 + 3 + i1) i3 then iv μ (r0 + 3 + i1) i3 else l2)), (0, .ref r0), (1, .int (nI i1)), (3, .int (nI i3))]) d_X5_holding_24 rfl (by decide) rfl ?_
    refine G_iinc (L' := [(3, .int (nI (i3 + 1))), (2, .int (if l2 < iv μ (r0 + 3 + i1) i3 then iv μ (r0 + 3 + i1) i3 else l2)), (0, .ref r0), (1, .int (nI i1))]) d_X5_holding_25 3 rfl (inc1 i3) (by decide) rfl ?_
    refine G_goto (tgt := 4) d_X5_holding_28 rfl ?_
    refine G_sub (L' := [(0, .ref r0), (1, .int (nI i1)), (2, .int (if l2 < iv μ (r0 + 3 + i1) i3 then iv μ (r0 + 3 + i1) i3 else l2)), (3, .int (nI (i3 + 1)))]) [2, 3, 1, 0] rfl ?_
    exact (h c0)
theorem d_X1_answerAhead_0 : decode cX1_answerAhead 0 = .ok (.iload_n 1, 1) := by decide +kernel
theorem d_X1_answerAhead_1 : decode cX1_answerAhead 1 = .ok (.iconst 2, 1) := by decide +kernel
theorem d_X1_answerAhead_2 : decode cX1_answerAhead 2 = .ok (.if_icmp .ne 9, 3) := by decide +kernel
theorem d_X1_answerAhead_5 : decode cX1_answerAhead 5 = .ok (.aload_n 0, 1) := by decide +kernel
theorem d_X1_answerAhead_6 : decode cX1_answerAhead 6 = .ok (.iload_n 3, 1) := by decide +kernel
theorem d_X1_answerAhead_7 : decode cX1_answerAhead 7 = .ok (.invokevirtual 67, 3) := by decide +kernel
theorem d_X1_answerAhead_10 : decode cX1_answerAhead 10 = .ok (.ireturn, 1) := by decide +kernel
theorem d_X1_answerAhead_11 : decode cX1_answerAhead 11 = .ok (.iload_n 1, 1) := by decide +kernel
theorem d_X1_answerAhead_12 : decode cX1_answerAhead 12 = .ok (.iconst 3, 1) := by decide +kernel
theorem d_X1_answerAhead_13 : decode cX1_answerAhead 13 = .ok (.if_icmp .eq 8, 3) := by decide +kernel
theorem d_X1_answerAhead_16 : decode cX1_answerAhead 16 = .ok (.iload_n 1, 1) := by decide +kernel
theorem d_X1_answerAhead_17 : decode cX1_answerAhead 17 = .ok (.iconst 4, 1) := by decide +kernel
theorem d_X1_answerAhead_18 : decode cX1_answerAhead 18 = .ok (.if_icmp .ne 11, 3) := by decide +kernel
theorem d_X1_answerAhead_21 : decode cX1_answerAhead 21 = .ok (.aload_n 0, 1) := by decide +kernel
theorem d_X1_answerAhead_22 : decode cX1_answerAhead 22 = .ok (.iload_n 2, 1) := by decide +kernel
theorem d_X1_answerAhead_23 : decode cX1_answerAhead 23 = .ok (.invokevirtual 67, 3) := by decide +kernel
theorem d_X1_answerAhead_26 : decode cX1_answerAhead 26 = .ok (.goto 4, 3) := by decide +kernel
theorem d_X1_answerAhead_29 : decode cX1_answerAhead 29 = .ok (.iconst 2, 1) := by decide +kernel
theorem d_X1_answerAhead_30 : decode cX1_answerAhead 30 = .ok (.ireturn, 1) := by decide +kernel
theorem b_X1_answerAhead_0 {X : cX} {d : Nat} {μ : mM} {K : Option Value → mM → Prop} {r0 : Nat} {l1 : Int32} {l2 : Int32} {l3 : Int32} (h : ¬ l1 = (2 : Int32) → l1 = (3 : Int32) → G X (Rm (d + 2)) mX1_answerAhead 21 [(0, .ref r0), (2, .int l2)] [] μ 0 0 K) (hK : ¬ l1 = (2 : Int32) → ¬ l1 = (3 : Int32) → ¬ l1 = (4 : Int32) → K (some (.int 2)) μ) (h_2 : ¬ l1 = (2 : Int32) → ¬ l1 = (3 : Int32) → l1 = (4 : Int32) → G X (Rm (d + 2)) mX1_answerAhead 21 [(0, .ref r0), (2, .int l2)] [] μ 0 0 K) (hw5_r0 : WF5 μ r0) (hc_holding : l1 = (2 : Int32) → Ct X (Rm (d + 1)) mX5_holding [.ref r0, .int l3] μ (fun r μ2 => G X (Rm (d + 2)) mX1_answerAhead 10 [] (r.toList ++ []) μ2 0 0 K)) : G X (Rm (d + 2)) mX1_answerAhead 0 [(0, .ref r0), (1, .int l1), (2, .int l2), (3, .int l3)] [] μ 0 0 K := by
  refine G_iload_n d_X1_answerAhead_0 rfl 1 rfl ?_
  refine G_iconst d_X1_answerAhead_1 ic_2 ?_
  refine G_icmp_ne (tgt := 11) d_X1_answerAhead_2 rfl (fun c0 => ?_) (fun c0 => ?_)
  ·
    refine G_iload_n d_X1_answerAhead_11 rfl 1 rfl ?_
    refine G_iconst d_X1_answerAhead_12 ic_3 ?_
    refine G_icmp_eq (tgt := 21) d_X1_answerAhead_13 rfl (fun c1 => ?_) (fun c1 => ?_)
    ·
      refine G_sub (L' := [(0, .ref r0), (2, .int l2)]) [0, 2] rfl ?_
      exact (h c0 c1)
    ·
      refine G_iload_n d_X1_answerAhead_16 rfl 1 rfl ?_
      refine G_iconst d_X1_answerAhead_17 ic_4 ?_
      refine G_icmp_ne (tgt := 29) d_X1_answerAhead_18 rfl (fun c2 => ?_) (fun c2 => ?_)
      ·
        refine G_iconst d_X1_answerAhead_29 ic_2 ?_
        exact G_iret rfl rfl rfl d_X1_answerAhead_30 (hK c0 c1 c2)
      ·
        refine G_sub (L' := [(0, .ref r0), (2, .int l2)]) [0, 2] rfl ?_
        exact (h_2 c0 c1 c2)
  ·
    refine G_aload_n d_X1_answerAhead_5 rfl 0 rfl ?_
    refine G_iload_n d_X1_answerAhead_6 rfl 3 rfl ?_
    refine G_sub (L' := []) [] rfl ?_
    refine G_callV (M' := mX5_holding) (R' := (Rm (d + 1))) (S := []) [.int l3] 5 (w5_kd hw5_r0) cok5 rfl ok_X5_holding ml_X1_67 pn_X5_holding (ru_Rm (by decide)) (Nat.le_of_ble_eq_true rfl) d_X1_answerAhead_7 ?_
    exact (hc_holding c0)
theorem b_X1_answerAhead_10 {X : cX} {d : Nat} {μ : mM} {K : Option Value → mM → Prop} {v0 : Int32} (hK : K (some (.int v0)) μ) : G X (Rm (d + 2)) mX1_answerAhead 10 [] [.int v0] μ 0 0 K := by
  exact G_iret rfl rfl rfl d_X1_answerAhead_10 hK
theorem b_X1_answerAhead_21 {X : cX} {d : Nat} {μ : mM} {K : Option Value → mM → Prop} {r0 : Nat} {l2 : Int32} (hw5_r0 : WF5 μ r0) (hc_holding : Ct X (Rm (d + 1)) mX5_holding [.ref r0, .int l2] μ (fun r μ2 => G X (Rm (d + 2)) mX1_answerAhead 26 [] (r.toList ++ []) μ2 0 0 K)) : G X (Rm (d + 2)) mX1_answerAhead 21 [(0, .ref r0), (2, .int l2)] [] μ 0 0 K := by
  refine G_aload_n d_X1_answerAhead_21 rfl 0 rfl ?_
  refine G_iload_n d_X1_answerAhead_22 rfl 1 rfl ?_
  refine G_sub (L' := []) [] rfl ?_
  refine G_callV (M' := mX5_holding) (R' := (Rm (d + 1))) (S := []) [.int l2] 5 (w5_kd hw5_r0) cok5 rfl ok_X5_holding ml_X1_67 pn_X5_holding (ru_Rm (by decide)) (Nat.le_of_ble_eq_true rfl) d_X1_answerAhead_23 ?_
  exact hc_holding
theorem b_X1_answerAhead_26 {X : cX} {d : Nat} {μ : mM} {K : Option Value → mM → Prop} {v0 : Int32} (hK : K (some (.int v0)) μ) : G X (Rm (d + 2)) mX1_answerAhead 26 [] [.int v0] μ 0 0 K := by
  refine G_goto (tgt := 30) d_X1_answerAhead_26 rfl ?_
  exact G_iret rfl rfl rfl d_X1_answerAhead_30 hK
theorem d_X1_follow_0 : decode cX1_follow 0 = .ok (.aload_n 0, 1) := by decide +kernel
theorem d_X1_follow_1 : decode cX1_follow 1 = .ok (.getfield 9, 3) := by decide +kernel
theorem d_X1_follow_4 : decode cX1_follow 4 = .ok (.iconst 0, 1) := by decide +kernel
theorem d_X1_follow_5 : decode cX1_follow 5 = .ok (.invokestatic 36, 3) := by decide +kernel
theorem d_X1_follow_8 : decode cX1_follow 8 = .ok (.iconst 0, 1) := by decide +kernel
theorem d_X1_follow_9 : decode cX1_follow 9 = .ok (.istore 4, 2) := by decide +kernel
theorem d_X1_follow_11 : decode cX1_follow 11 = .ok (.iload 4, 2) := by decide +kernel
theorem d_X1_follow_13 : decode cX1_follow 13 = .ok (.aload_n 1, 1) := by decide +kernel
theorem d_X1_follow_14 : decode cX1_follow 14 = .ok (.getfield 59, 3) := by decide +kernel
theorem d_X1_follow_17 : decode cX1_follow 17 = .ok (.if_icmp .ge 66, 3) := by decide +kernel
theorem d_X1_follow_20 : decode cX1_follow 20 = .ok (.iconst 0, 1) := by decide +kernel
theorem d_X1_follow_21 : decode cX1_follow 21 = .ok (.istore 5, 2) := by decide +kernel
theorem d_X1_follow_23 : decode cX1_follow 23 = .ok (.iload 5, 2) := by decide +kernel
theorem d_X1_follow_25 : decode cX1_follow 25 = .ok (.aload_n 1, 1) := by decide +kernel
theorem d_X1_follow_26 : decode cX1_follow 26 = .ok (.getfield 59, 3) := by decide +kernel
theorem d_X1_follow_29 : decode cX1_follow 29 = .ok (.if_icmp .ge 48, 3) := by decide +kernel
theorem d_X1_follow_32 : decode cX1_follow 32 = .ok (.aload_n 0, 1) := by decide +kernel
theorem d_X1_follow_33 : decode cX1_follow 33 = .ok (.getfield 9, 3) := by decide +kernel
theorem d_X1_follow_36 : decode cX1_follow 36 = .ok (.iload 5, 2) := by decide +kernel
theorem d_X1_follow_38 : decode cX1_follow 38 = .ok (.aload_n 0, 1) := by decide +kernel
theorem d_X1_follow_39 : decode cX1_follow 39 = .ok (.getfield 9, 3) := by decide +kernel
theorem d_X1_follow_42 : decode cX1_follow 42 = .ok (.iload 5, 2) := by decide +kernel
theorem d_X1_follow_44 : decode cX1_follow 44 = .ok (.iaload, 1) := by decide +kernel
theorem d_X1_follow_45 : decode cX1_follow 45 = .ok (.aload_n 1, 1) := by decide +kernel
theorem d_X1_follow_46 : decode cX1_follow 46 = .ok (.getfield 32, 3) := by decide +kernel
theorem d_X1_follow_49 : decode cX1_follow 49 = .ok (.iload_n 3, 1) := by decide +kernel
theorem d_X1_follow_50 : decode cX1_follow 50 = .ok (.aaload, 1) := by decide +kernel
theorem d_X1_follow_51 : decode cX1_follow 51 = .ok (.iload 4, 2) := by decide +kernel
theorem d_X1_follow_53 : decode cX1_follow 53 = .ok (.iaload, 1) := by decide +kernel
theorem d_X1_follow_54 : decode cX1_follow 54 = .ok (.aload_n 1, 1) := by decide +kernel
theorem d_X1_follow_55 : decode cX1_follow 55 = .ok (.getfield 71, 3) := by decide +kernel
theorem d_X1_follow_58 : decode cX1_follow 58 = .ok (.iload 4, 2) := by decide +kernel
theorem d_X1_follow_60 : decode cX1_follow 60 = .ok (.aaload, 1) := by decide +kernel
theorem d_X1_follow_61 : decode cX1_follow 61 = .ok (.iload 5, 2) := by decide +kernel
theorem d_X1_follow_63 : decode cX1_follow 63 = .ok (.iaload, 1) := by decide +kernel
theorem d_X1_follow_64 : decode cX1_follow 64 = .ok (.invokestatic 74, 3) := by decide +kernel
theorem d_X1_follow_67 : decode cX1_follow 67 = .ok (.invokestatic 80, 3) := by decide +kernel
theorem d_X1_follow_70 : decode cX1_follow 70 = .ok (.iastore, 1) := by decide +kernel
theorem d_X1_follow_71 : decode cX1_follow 71 = .ok (.iinc 5 1, 3) := by decide +kernel
theorem d_X1_follow_74 : decode cX1_follow 74 = .ok (.goto (-51), 3) := by decide +kernel
theorem d_X1_follow_77 : decode cX1_follow 77 = .ok (.iinc 4 1, 3) := by decide +kernel
theorem d_X1_follow_80 : decode cX1_follow 80 = .ok (.goto (-69), 3) := by decide +kernel
theorem d_X1_follow_83 : decode cX1_follow 83 = .ok (.aload_n 0, 1) := by decide +kernel
theorem d_X1_follow_84 : decode cX1_follow 84 = .ok (.getfield 9, 3) := by decide +kernel
theorem d_X1_follow_87 : decode cX1_follow 87 = .ok (.iconst 0, 1) := by decide +kernel
theorem d_X1_follow_88 : decode cX1_follow 88 = .ok (.aload_n 1, 1) := by decide +kernel
theorem d_X1_follow_89 : decode cX1_follow 89 = .ok (.getfield 32, 3) := by decide +kernel
theorem d_X1_follow_92 : decode cX1_follow 92 = .ok (.iload_n 2, 1) := by decide +kernel
theorem d_X1_follow_93 : decode cX1_follow 93 = .ok (.aaload, 1) := by decide +kernel
theorem d_X1_follow_94 : decode cX1_follow 94 = .ok (.iconst 0, 1) := by decide +kernel
theorem d_X1_follow_95 : decode cX1_follow 95 = .ok (.bipush 6, 2) := by decide +kernel
theorem d_X1_follow_97 : decode cX1_follow 97 = .ok (.invokestatic 42, 3) := by decide +kernel
theorem d_X1_follow_100 : decode cX1_follow 100 = .ok (.return_, 1) := by decide +kernel
theorem b_X1_follow_0 {X : cX} {d : Nat} {μ : mM} {K : Option Value → mM → Prop} {r0 : Nat} {r1 : Nat} {l2 : Int32} {l3 : Int32} (hw1_r0 : WF1 μ r0) (hc_fill : Ct X (Rm d) mJ7_fill_53178 [.ref (r0 + 1), .int 0] μ (fun r μ2 => G X (Rm (d + 1)) mX1_follow 8 [(0, .ref r0), (1, .ref r1), (2, .int l2), (3, .int l3)] (r.toList ++ []) μ2 0 0 K)) : G X (Rm (d + 1)) mX1_follow 0 [(0, .ref r0), (1, .ref r1), (2, .int l2), (3, .int l3)] [] μ 0 0 K := by
  refine G_aload_n d_X1_follow_0 rfl 0 rfl ?_
  refine G_getR (r := r0 + 1) 1 0 (w1_kd hw1_r0) (w1_f0 hw1_r0) cok1 (by decide) rfl fl_X1_9 d_X1_follow_1 ?_
  refine G_iconst d_X1_follow_4 ic_0 ?_
  refine G_callS (M' := mJ7_fill_53178) (R' := (Rm d)) (S := []) [.ref (r0 + 1), .int 0] ok_J7_fill_53178 ml_X1_36 pn_J7_fill_53178 (ru_Rm (by decide)) (Nat.le_of_ble_eq_true rfl) d_X1_follow_5 ?_
  exact hc_fill
theorem b_X1_follow_8 {X : cX} {d : Nat} {μ : mM} {K : Option Value → mM → Prop} {r0 : Nat} {r1 : Nat} {l2 : Int32} {l3 : Int32} (h : G X (Rm (d + 1)) mX1_follow 11 [(0, .ref r0), (1, .ref r1), (2, .int l2), (3, .int l3), (4, .int (nI 0))] [] μ 0 0 K) : G X (Rm (d + 1)) mX1_follow 8 [(0, .ref r0), (1, .ref r1), (2, .int l2), (3, .int l3)] [] μ 0 0 K := by
  refine G_iconst d_X1_follow_8 ic_0 ?_
  refine G_istore (L' := [(4, .int (nI 0)), (0, .ref r0), (1, .ref r1), (2, .int l2), (3, .int l3)]) d_X1_follow_9 (by decide) rfl ?_
  refine G_sub (L' := [(0, .ref r0), (1, .ref r1), (2, .int l2), (3, .int l3), (4, .int (nI 0))]) [1, 2, 3, 4, 0] rfl ?_
  exact h
theorem b_X1_follow_11 {X : cX} {d : Nat} {μ : mM} {K : Option Value → mM → Prop} {r0 : Nat} {r1 : Nat} {i2 : Nat} {l3 : Int32} {l4 : Int32} (hw5_r1 : WF5 μ r1) (hw1_r0 : WF1 μ r0) (hb : (iv μ r1 0) ≤ l4 → i2 < 3) (hK : (iv μ r1 0) ≤ l4 → K none (cpI μ (r0 + 1) 0 (r1 + 3 + i2) 0 6)) (h : ¬ (iv μ r1 0) ≤ l4 → G X (Rm (d + 1)) mX1_follow 23 [(0, .ref r0), (1, .ref r1), (2, .int (nI i2)), (3, .int l3), (4, .int l4), (5, .int (nI 0))] [] μ 0 0 K) : G X (Rm (d + 1)) mX1_follow 11 [(0, .ref r0), (1, .ref r1), (2, .int (nI i2)), (3, .int l3), (4, .int l4)] [] μ 0 0 K := by
  refine G_iload d_X1_follow_11 4 rfl ?_
  refine G_aload_n d_X1_follow_13 rfl 1 rfl ?_
  refine G_getI 5 0 (w5_kd hw5_r1) cok5 (by decide) rfl fl_X1_59 d_X1_follow_14 ?_
  refine G_icmp_ge (tgt := 83) d_X1_follow_17 rfl (fun c0 => ?_) (fun c0 => ?_)
  ·
    refine G_aload_n d_X1_follow_83 rfl 0 rfl ?_
    refine G_getR (r := r0 + 1) 1 0 (w1_kd hw1_r0) (w1_f0 hw1_r0) cok1 (by decide) rfl fl_X1_9 d_X1_follow_84 ?_
    refine G_iconst d_X1_follow_87 ic_0 ?_
    refine G_aload_n d_X1_follow_88 rfl 1 rfl ?_
    refine G_getR (r := r1 + 2) 5 2 (w5_kd hw5_r1) (w5_f2 hw5_r1) cok5 (by decide) rfl fl_X1_32 d_X1_follow_89 ?_
    refine G_iload_n d_X1_follow_92 rfl 2 rfl ?_
    refine G_aaldA (r := r1 + 3 + i2) i2 (w5_k2 hw5_r1) rfl (hb c0) (w5_r2 hw5_r1 i2 (hb c0)) d_X1_follow_93 ?_
    refine G_iconst d_X1_follow_94 ic_0 ?_
    refine G_bipush d_X1_follow_95 bp_6 ?_
    refine G_copy (sp := 0) (dp := 0) (n := 6) (w1_k0 hw1_r0) (w5_q2 hw5_r1 i2 (hb c0)) rfl rfl rfl (by decide) (by decide) ml_X1_42 rb_Rm (Nat.le_of_ble_eq_true rfl) d_X1_follow_97 ?_
    exact G_vret rfl rfl rfl d_X1_follow_100 (hK c0)
  ·
    refine G_iconst d_X1_follow_20 ic_0 ?_
    refine G_istore (L' := [(5, .int (nI 0)), (0, .ref r0), (1, .ref r1), (2, .int (nI i2)), (3, .int l3), (4, .int l4)]) d_X1_follow_21 (by decide) rfl ?_
    refine G_sub (L' := [(0, .ref r0), (1, .ref r1), (2, .int (nI i2)), (3, .int l3), (4, .int l4), (5, .int (nI 0))]) [1, 2, 3, 4, 5, 0] rfl ?_
    exact (h c0)
theorem b_X1_follow_23 {X : cX} {d : Nat} {μ : mM} {K : Option Value → mM → Prop} {r0 : Nat} {r1 : Nat} {l2 : Int32} {i3 : Nat} {i4 : Nat} {i5 : Nat} (hw5_r1 : WF5 μ r1) (h : (iv μ r1 0) ≤ (nI i5) → G X (Rm (d + 1)) mX1_follow 11 [(0, .ref r0), (1, .ref r1), (2, .int l2), (3, .int (nI i3)), (4, .int (nI (i4 + 1)))] [] μ 0 0 K) (hw1_r0 : WF1 μ r0) (hb : ¬ (iv μ r1 0) ≤ (nI i5) → i5 < 6) (hb_2 : ¬ (iv μ r1 0) ≤ (nI i5) → i3 < 3) (hb_3 : ¬ (iv μ r1 0) ≤ (nI i5) → i4 < 6) (h_2 : ¬ (iv μ r1 0) ≤ (nI i5) → G X (Rm (d + 1)) mX1_follow 23 [(0, .ref r0), (1, .ref r1), (2, .int l2), (3, .int (nI i3)), (4, .int (nI i4)), (5, .int (nI (i5 + 1)))] [] (wi μ (r0 + 1) i5 (if iv μ (r0 + 1) i5 < (if iv μ (r1 + 7 + i4) i5 < iv μ (r1 + 3 + i3) i4 then iv μ (r1 + 7 + i4) i5 else iv μ (r1 + 3 + i3) i4) then (if iv μ (r1 + 7 + i4) i5 < iv μ (r1 + 3 + i3) i4 then iv μ (r1 + 7 + i4) i5 else iv μ (r1 + 3 + i3) i4) else iv μ (r0 + 1) i5)) 0 0 K) : G X (Rm (d + 1)) mX1_follow 23 [(0, .ref r0), (1, .ref r1), (2, .int l2), (3, .int (nI i3)), (4, .int (nI i4)), (5, .int (nI i5))] [] μ 0 0 K := by
  refine G_iload d_X1_follow_23 5 rfl ?_
  refine G_aload_n d_X1_follow_25 rfl 1 rfl ?_
  refine G_getI 5 0 (w5_kd hw5_r1) cok5 (by decide) rfl fl_X1_59 d_X1_follow_26 ?_
  refine G_icmp_ge (tgt := 77) d_X1_follow_29 rfl (fun c0 => ?_) (fun c0 => ?_)
  ·
    refine G_iinc (L' := [(4, .int (nI (i4 + 1))), (0, .ref r0), (1, .ref r1), (2, .int l2), (3, .int (nI i3)), (5, .int (nI i5))]) d_X1_follow_77 4 rfl (inc1 i4) (by decide) rfl ?_
    refine G_goto (tgt := 11) d_X1_follow_80 rfl ?_
    refine G_sub (L' := [(0, .ref r0), (1, .ref r1), (2, .int l2), (3, .int (nI i3)), (4, .int (nI (i4 + 1)))]) [1, 2, 3, 4, 0] rfl ?_
    exact (h c0)
  ·
    refine G_aload_n d_X1_follow_32 rfl 0 rfl ?_
    refine G_getR (r := r0 + 1) 1 0 (w1_kd hw1_r0) (w1_f0 hw1_r0) cok1 (by decide) rfl fl_X1_9 d_X1_follow_33 ?_
    refine G_iload d_X1_follow_36 5 rfl ?_
    refine G_aload_n d_X1_follow_38 rfl 0 rfl ?_
    refine G_getR (r := r0 + 1) 1 0 (w1_kd hw1_r0) (w1_f0 hw1_r0) cok1 (by decide) rfl fl_X1_9 d_X1_follow_39 ?_
    refine G_iload d_X1_follow_42 5 rfl ?_
    refine G_iald i5 (w1_k0 hw1_r0) rfl (hb c0) d_X1_follow_44 ?_
    refine G_aload_n d_X1_follow_45 rfl 1 rfl ?_
    refine G_getR (r := r1 + 2) 5 2 (w5_kd hw5_r1) (w5_f2 hw5_r1) cok5 (by decide) rfl fl_X1_32 d_X1_follow_46 ?_
    refine G_iload_n d_X1_follow_49 rfl 3 rfl ?_
    refine G_aaldA (r := r1 + 3 + i3) i3 (w5_k2 hw5_r1) rfl (hb_2 c0) (w5_r2 hw5_r1 i3 (hb_2 c0)) d_X1_follow_50 ?_
    refine G_iload d_X1_follow_51 4 rfl ?_
    refine G_iald i4 (w5_q2 hw5_r1 i3 (hb_2 c0)) rfl (hb_3 c0) d_X1_follow_53 ?_
    refine G_aload_n d_X1_follow_54 rfl 1 rfl ?_
    refine G_getR (r := r1 + 6) 5 3 (w5_kd hw5_r1) (w5_f3 hw5_r1) cok5 (by decide) rfl fl_X1_71 d_X1_follow_55 ?_
    refine G_iload d_X1_follow_58 4 rfl ?_
    refine G_aaldA (r := r1 + 7 + i4) i4 (w5_k3 hw5_r1) rfl (hb_3 c0) (w5_r3 hw5_r1 i4 (hb_3 c0)) d_X1_follow_60 ?_
    refine G_iload d_X1_follow_61 5 rfl ?_
    refine G_iald i5 (w5_q3 hw5_r1 i4 (hb_3 c0)) rfl (hb c0) d_X1_follow_63 ?_
    refine G_min ml_X1_74 rb_Rm (Nat.le_of_ble_eq_true rfl) d_X1_follow_64 ?_
    refine G_max ml_X1_80 rb_Rm (Nat.le_of_ble_eq_true rfl) d_X1_follow_67 ?_
    refine G_iast i5 (w1_k0 hw1_r0) rfl (hb c0) d_X1_follow_70 ?_
    refine G_iinc (L' := [(5, .int (nI (i5 + 1))), (0, .ref r0), (1, .ref r1), (2, .int l2), (3, .int (nI i3)), (4, .int (nI i4))]) d_X1_follow_71 5 rfl (inc1 i5) (by decide) rfl ?_
    refine G_goto (tgt := 23) d_X1_follow_74 rfl ?_
    refine G_sub (L' := [(0, .ref r0), (1, .ref r1), (2, .int l2), (3, .int (nI i3)), (4, .int (nI i4)), (5, .int (nI (i5 + 1)))]) [1, 2, 3, 4, 5, 0] rfl ?_
    exact (h_2 c0)
theorem d_X1_cut_0 : decode cX1_cut 0 = .ok (.iconst 0, 1) := by decide +kernel
theorem d_X1_cut_1 : decode cX1_cut 1 = .ok (.istore_n 2, 1) := by decide +kernel
theorem d_X1_cut_2 : decode cX1_cut 2 = .ok (.iload_n 2, 1) := by decide +kernel
theorem d_X1_cut_3 : decode cX1_cut 3 = .ok (.aload_n 0, 1) := by decide +kernel
theorem d_X1_cut_4 : decode cX1_cut 4 = .ok (.getfield 59, 3) := by decide +kernel
theorem d_X1_cut_7 : decode cX1_cut 7 = .ok (.if_icmp .ge 60, 3) := by decide +kernel
theorem d_X1_cut_10 : decode cX1_cut 10 = .ok (.iconst 2, 1) := by decide +kernel
theorem d_X1_cut_11 : decode cX1_cut 11 = .ok (.aload_n 0, 1) := by decide +kernel
theorem d_X1_cut_12 : decode cX1_cut 12 = .ok (.getfield 32, 3) := by decide +kernel
theorem d_X1_cut_15 : decode cX1_cut 15 = .ok (.iload_n 1, 1) := by decide +kernel
theorem d_X1_cut_16 : decode cX1_cut 16 = .ok (.aaload, 1) := by decide +kernel
theorem d_X1_cut_17 : decode cX1_cut 17 = .ok (.iload_n 2, 1) := by decide +kernel
theorem d_X1_cut_18 : decode cX1_cut 18 = .ok (.iaload, 1) := by decide +kernel
theorem d_X1_cut_19 : decode cX1_cut 19 = .ok (.isub, 1) := by decide +kernel
theorem d_X1_cut_20 : decode cX1_cut 20 = .ok (.istore_n 3, 1) := by decide +kernel
theorem d_X1_cut_21 : decode cX1_cut 21 = .ok (.iconst 0, 1) := by decide +kernel
theorem d_X1_cut_22 : decode cX1_cut 22 = .ok (.istore 4, 2) := by decide +kernel
theorem d_X1_cut_24 : decode cX1_cut 24 = .ok (.iload 4, 2) := by decide +kernel
theorem d_X1_cut_26 : decode cX1_cut 26 = .ok (.aload_n 0, 1) := by decide +kernel
theorem d_X1_cut_27 : decode cX1_cut 27 = .ok (.getfield 59, 3) := by decide +kernel
theorem d_X1_cut_30 : decode cX1_cut 30 = .ok (.if_icmp .ge 31, 3) := by decide +kernel
theorem d_X1_cut_33 : decode cX1_cut 33 = .ok (.aload_n 0, 1) := by decide +kernel
theorem d_X1_cut_34 : decode cX1_cut 34 = .ok (.getfield 71, 3) := by decide +kernel
theorem d_X1_cut_37 : decode cX1_cut 37 = .ok (.iload_n 2, 1) := by decide +kernel
theorem d_X1_cut_38 : decode cX1_cut 38 = .ok (.aaload, 1) := by decide +kernel
theorem d_X1_cut_39 : decode cX1_cut 39 = .ok (.iload 4, 2) := by decide +kernel
theorem d_X1_cut_41 : decode cX1_cut 41 = .ok (.aload_n 0, 1) := by decide +kernel
theorem d_X1_cut_42 : decode cX1_cut 42 = .ok (.getfield 71, 3) := by decide +kernel
theorem d_X1_cut_45 : decode cX1_cut 45 = .ok (.iload_n 2, 1) := by decide +kernel
theorem d_X1_cut_46 : decode cX1_cut 46 = .ok (.aaload, 1) := by decide +kernel
theorem d_X1_cut_47 : decode cX1_cut 47 = .ok (.iload 4, 2) := by decide +kernel
theorem d_X1_cut_49 : decode cX1_cut 49 = .ok (.iaload, 1) := by decide +kernel
theorem d_X1_cut_50 : decode cX1_cut 50 = .ok (.iload_n 3, 1) := by decide +kernel
theorem d_X1_cut_51 : decode cX1_cut 51 = .ok (.invokestatic 74, 3) := by decide +kernel
theorem d_X1_cut_54 : decode cX1_cut 54 = .ok (.iastore, 1) := by decide +kernel
theorem d_X1_cut_55 : decode cX1_cut 55 = .ok (.iinc 4 1, 3) := by decide +kernel
theorem d_X1_cut_58 : decode cX1_cut 58 = .ok (.goto (-34), 3) := by decide +kernel
theorem d_X1_cut_61 : decode cX1_cut 61 = .ok (.iinc 2 1, 3) := by decide +kernel
theorem d_X1_cut_64 : decode cX1_cut 64 = .ok (.goto (-62), 3) := by decide +kernel
theorem d_X1_cut_67 : decode cX1_cut 67 = .ok (.return_, 1) := by decide +kernel
theorem b_X1_cut_0 {X : cX} {d : Nat} {μ : mM} {K : Option Value → mM → Prop} {r0 : Nat} {l1 : Int32} (h : G X (Rm (d + 1)) mX1_cut 2 [(0, .ref r0), (1, .int l1), (2, .int (nI 0))] [] μ 0 0 K) : G X (Rm (d + 1)) mX1_cut 0 [(0, .ref r0), (1, .int l1)] [] μ 0 0 K := by
  refine G_iconst d_X1_cut_0 ic_0 ?_
  refine G_istore_n (L' := [(2, .int (nI 0)), (0, .ref r0), (1, .int l1)]) d_X1_cut_1 rfl (by decide) rfl ?_
  refine G_sub (L' := [(0, .ref r0), (1, .int l1), (2, .int (nI 0))]) [1, 2, 0] rfl ?_
  exact h
theorem b_X1_cut_2 {X : cX} {d : Nat} {μ : mM} {K : Option Value → mM → Prop} {r0 : Nat} {i1 : Nat} {i2 : Nat} (hw5_r0 : WF5 μ r0) (hK : (iv μ r0 0) ≤ (nI i2) → K none μ) (hb : ¬ (iv μ r0 0) ≤ (nI i2) → i1 < 3) (hb_2 : ¬ (iv μ r0 0) ≤ (nI i2) → i2 < 6) (h : ¬ (iv μ r0 0) ≤ (nI i2) → G X (Rm (d + 1)) mX1_cut 24 [(0, .ref r0), (1, .int (nI i1)), (2, .int (nI i2)), (3, .int ((2 : Int32) - (iv μ (r0 + 3 + i1) i2))), (4, .int (nI 0))] [] μ 0 0 K) : G X (Rm (d + 1)) mX1_cut 2 [(0, .ref r0), (1, .int (nI i1)), (2, .int (nI i2))] [] μ 0 0 K := by
  refine G_iload_n d_X1_cut_2 rfl 2 rfl ?_
  refine G_aload_n d_X1_cut_3 rfl 0 rfl ?_
  refine G_getI 5 0 (w5_kd hw5_r0) cok5 (by decide) rfl fl_X1_59 d_X1_cut_4 ?_
  refine G_icmp_ge (tgt := 67) d_X1_cut_7 rfl (fun c0 => ?_) (fun c0 => ?_)
  ·
    exact G_vret rfl rfl rfl d_X1_cut_67 (hK c0)
  ·
    refine G_iconst d_X1_cut_10 ic_2 ?_
    refine G_aload_n d_X1_cut_11 rfl 0 rfl ?_
    refine G_getR (r := r0 + 2) 5 2 (w5_kd hw5_r0) (w5_f2 hw5_r0) cok5 (by decide) rfl fl_X1_32 d_X1_cut_12 ?_
    refine G_iload_n d_X1_cut_15 rfl 1 rfl ?_
    refine G_aaldA (r := r0 + 3 + i1) i1 (w5_k2 hw5_r0) rfl (hb c0) (w5_r2 hw5_r0 i1 (hb c0)) d_X1_cut_16 ?_
    refine G_iload_n d_X1_cut_17 rfl 2 rfl ?_
    refine G_iald i2 (w5_q2 hw5_r0 i1 (hb c0)) rfl (hb_2 c0) d_X1_cut_18 ?_
    refine G_isub d_X1_cut_19 ?_
    refine G_istore_n (L' := [(3, .int ((2 : Int32) - (iv μ (r0 + 3 + i1) i2))), (0, .ref r0), (1, .int (nI i1)), (2, .int (nI i2))]) d_X1_cut_20 rfl (by decide) rfl ?_
    refine G_iconst d_X1_cut_21 ic_0 ?_
    refine G_istore (L' := [(4, .int (nI 0)), (3, .int ((2 : Int32) - (iv μ (r0 + 3 + i1) i2))), (0, .ref r0), (1, .int (nI i1)), (2, .int (nI i2))]) d_X1_cut_22 (by decide) rfl ?_
    refine G_sub (L' := [(0, .ref r0), (1, .int (nI i1)), (2, .int (nI i2)), (3, .int ((2 : Int32) - (iv μ (r0 + 3 + i1) i2))), (4, .int (nI 0))]) [2, 3, 4, 1, 0] rfl ?_
    exact (h c0)
theorem b_X1_cut_24 {X : cX} {d : Nat} {μ : mM} {K : Option Value → mM → Prop} {r0 : Nat} {l1 : Int32} {i2 : Nat} {l3 : Int32} {i4 : Nat} (hw5_r0 : WF5 μ r0) (h : (iv μ r0 0) ≤ (nI i4) → G X (Rm (d + 1)) mX1_cut 2 [(0, .ref r0), (1, .int l1), (2, .int (nI (i2 + 1)))] [] μ 0 0 K) (hb : ¬ (iv μ r0 0) ≤ (nI i4) → i2 < 6) (hb_2 : ¬ (iv μ r0 0) ≤ (nI i4) → i4 < 6) (h_2 : ¬ (iv μ r0 0) ≤ (nI i4) → G X (Rm (d + 1)) mX1_cut 24 [(0, .ref r0), (1, .int l1), (2, .int (nI i2)), (3, .int l3), (4, .int (nI (i4 + 1)))] [] (wi μ (r0 + 7 + i2) i4 (if l3 < iv μ (r0 + 7 + i2) i4 then l3 else iv μ (r0 + 7 + i2) i4)) 0 0 K) : G X (Rm (d + 1)) mX1_cut 24 [(0, .ref r0), (1, .int l1), (2, .int (nI i2)), (3, .int l3), (4, .int (nI i4))] [] μ 0 0 K := by
  refine G_iload d_X1_cut_24 4 rfl ?_
  refine G_aload_n d_X1_cut_26 rfl 0 rfl ?_
  refine G_getI 5 0 (w5_kd hw5_r0) cok5 (by decide) rfl fl_X1_59 d_X1_cut_27 ?_
  refine G_icmp_ge (tgt := 61) d_X1_cut_30 rfl (fun c0 => ?_) (fun c0 => ?_)
  ·
    refine G_iinc (L' := [(2, .int (nI (i2 + 1))), (0, .ref r0), (1, .int l1), (3, .int l3), (4, .int (nI i4))]) d_X1_cut_61 2 rfl (inc1 i2) (by decide) rfl ?_
    refine G_goto (tgt := 2) d_X1_cut_64 rfl ?_
    refine G_sub (L' := [(0, .ref r0), (1, .int l1), (2, .int (nI (i2 + 1)))]) [1, 2, 0] rfl ?_
    exact (h c0)
  ·
    refine G_aload_n d_X1_cut_33 rfl 0 rfl ?_
    refine G_getR (r := r0 + 6) 5 3 (w5_kd hw5_r0) (w5_f3 hw5_r0) cok5 (by decide) rfl fl_X1_71 d_X1_cut_34 ?_
    refine G_iload_n d_X1_cut_37 rfl 2 rfl ?_
    refine G_aaldA (r := r0 + 7 + i2) i2 (w5_k3 hw5_r0) rfl (hb c0) (w5_r3 hw5_r0 i2 (hb c0)) d_X1_cut_38 ?_
    refine G_iload d_X1_cut_39 4 rfl ?_
    refine G_aload_n d_X1_cut_41 rfl 0 rfl ?_
    refine G_getR (r := r0 + 6) 5 3 (w5_kd hw5_r0) (w5_f3 hw5_r0) cok5 (by decide) rfl fl_X1_71 d_X1_cut_42 ?_
    refine G_iload_n d_X1_cut_45 rfl 2 rfl ?_
    refine G_aaldA (r := r0 + 7 + i2) i2 (w5_k3 hw5_r0) rfl (hb c0) (w5_r3 hw5_r0 i2 (hb c0)) d_X1_cut_46 ?_
    refine G_iload d_X1_cut_47 4 rfl ?_
    refine G_iald i4 (w5_q3 hw5_r0 i2 (hb c0)) rfl (hb_2 c0) d_X1_cut_49 ?_
    refine G_iload_n d_X1_cut_50 rfl 3 rfl ?_
    refine G_min ml_X1_74 rb_Rm (Nat.le_of_ble_eq_true rfl) d_X1_cut_51 ?_
    refine G_iast i4 (w5_q3 hw5_r0 i2 (hb c0)) rfl (hb_2 c0) d_X1_cut_54 ?_
    refine G_iinc (L' := [(4, .int (nI (i4 + 1))), (0, .ref r0), (1, .int l1), (2, .int (nI i2)), (3, .int l3)]) d_X1_cut_55 4 rfl (inc1 i4) (by decide) rfl ?_
    refine G_goto (tgt := 24) d_X1_cut_58 rfl ?_
    refine G_sub (L' := [(0, .ref r0), (1, .int l1), (2, .int (nI i2)), (3, .int l3), (4, .int (nI (i4 + 1)))]) [1, 2, 3, 4, 0] rfl ?_
    exact (h_2 c0)
theorem d_X1_link_0 : decode cX1_link 0 = .ok (.iconst 0, 1) := by decide +kernel
theorem d_X1_link_1 : decode cX1_link 1 = .ok (.istore_n 3, 1) := by decide +kernel
theorem d_X1_link_2 : decode cX1_link 2 = .ok (.iload_n 3, 1) := by decide +kernel
theorem d_X1_link_3 : decode cX1_link 3 = .ok (.aload_n 0, 1) := by decide +kernel
theorem d_X1_link_4 : decode cX1_link 4 = .ok (.getfield 59, 3) := by decide +kernel
theorem d_X1_link_7 : decode cX1_link 7 = .ok (.if_icmp .ge 72, 3) := by decide +kernel
theorem d_X1_link_10 : decode cX1_link 10 = .ok (.iconst 0, 1) := by decide +kernel
theorem d_X1_link_11 : decode cX1_link 11 = .ok (.istore 4, 2) := by decide +kernel
theorem d_X1_link_13 : decode cX1_link 13 = .ok (.iload 4, 2) := by decide +kernel
theorem d_X1_link_15 : decode cX1_link 15 = .ok (.aload_n 0, 1) := by decide +kernel
theorem d_X1_link_16 : decode cX1_link 16 = .ok (.getfield 59, 3) := by decide +kernel
theorem d_X1_link_19 : decode cX1_link 19 = .ok (.if_icmp .ge 54, 3) := by decide +kernel
theorem d_X1_link_22 : decode cX1_link 22 = .ok (.aload_n 0, 1) := by decide +kernel
theorem d_X1_link_23 : decode cX1_link 23 = .ok (.getfield 32, 3) := by decide +kernel
theorem d_X1_link_26 : decode cX1_link 26 = .ok (.iload_n 1, 1) := by decide +kernel
theorem d_X1_link_27 : decode cX1_link 27 = .ok (.aaload, 1) := by decide +kernel
theorem d_X1_link_28 : decode cX1_link 28 = .ok (.iload_n 3, 1) := by decide +kernel
theorem d_X1_link_29 : decode cX1_link 29 = .ok (.iaload, 1) := by decide +kernel
theorem d_X1_link_30 : decode cX1_link 30 = .ok (.aload_n 0, 1) := by decide +kernel
theorem d_X1_link_31 : decode cX1_link 31 = .ok (.getfield 32, 3) := by decide +kernel
theorem d_X1_link_34 : decode cX1_link 34 = .ok (.iload_n 2, 1) := by decide +kernel
theorem d_X1_link_35 : decode cX1_link 35 = .ok (.aaload, 1) := by decide +kernel
theorem d_X1_link_36 : decode cX1_link 36 = .ok (.iload 4, 2) := by decide +kernel
theorem d_X1_link_38 : decode cX1_link 38 = .ok (.iaload, 1) := by decide +kernel
theorem d_X1_link_39 : decode cX1_link 39 = .ok (.invokestatic 74, 3) := by decide +kernel
theorem d_X1_link_42 : decode cX1_link 42 = .ok (.istore 5, 2) := by decide +kernel
theorem d_X1_link_44 : decode cX1_link 44 = .ok (.aload_n 0, 1) := by decide +kernel
theorem d_X1_link_45 : decode cX1_link 45 = .ok (.getfield 71, 3) := by decide +kernel
theorem d_X1_link_48 : decode cX1_link 48 = .ok (.iload_n 3, 1) := by decide +kernel
theorem d_X1_link_49 : decode cX1_link 49 = .ok (.aaload, 1) := by decide +kernel
theorem d_X1_link_50 : decode cX1_link 50 = .ok (.iload 4, 2) := by decide +kernel
theorem d_X1_link_52 : decode cX1_link 52 = .ok (.aload_n 0, 1) := by decide +kernel
theorem d_X1_link_53 : decode cX1_link 53 = .ok (.getfield 71, 3) := by decide +kernel
theorem d_X1_link_56 : decode cX1_link 56 = .ok (.iload_n 3, 1) := by decide +kernel
theorem d_X1_link_57 : decode cX1_link 57 = .ok (.aaload, 1) := by decide +kernel
theorem d_X1_link_58 : decode cX1_link 58 = .ok (.iload 4, 2) := by decide +kernel
theorem d_X1_link_60 : decode cX1_link 60 = .ok (.iaload, 1) := by decide +kernel
theorem d_X1_link_61 : decode cX1_link 61 = .ok (.iload 5, 2) := by decide +kernel
theorem d_X1_link_63 : decode cX1_link 63 = .ok (.invokestatic 80, 3) := by decide +kernel
theorem d_X1_link_66 : decode cX1_link 66 = .ok (.iastore, 1) := by decide +kernel
theorem d_X1_link_67 : decode cX1_link 67 = .ok (.iinc 4 1, 3) := by decide +kernel
theorem d_X1_link_70 : decode cX1_link 70 = .ok (.goto (-57), 3) := by decide +kernel
theorem d_X1_link_73 : decode cX1_link 73 = .ok (.iinc 3 1, 3) := by decide +kernel
theorem d_X1_link_76 : decode cX1_link 76 = .ok (.goto (-74), 3) := by decide +kernel
theorem d_X1_link_79 : decode cX1_link 79 = .ok (.return_, 1) := by decide +kernel
theorem b_X1_link_0 {X : cX} {d : Nat} {μ : mM} {K : Option Value → mM → Prop} {r0 : Nat} {l1 : Int32} {l2 : Int32} (h : G X (Rm (d + 1)) mX1_link 2 [(0, .ref r0), (1, .int l1), (2, .int l2), (3, .int (nI 0))] [] μ 0 0 K) : G X (Rm (d + 1)) mX1_link 0 [(0, .ref r0), (1, .int l1), (2, .int l2)] [] μ 0 0 K := by
  refine G_iconst d_X1_link_0 ic_0 ?_
  refine G_istore_n (L' := [(3, .int (nI 0)), (0, .ref r0), (1, .int l1), (2, .int l2)]) d_X1_link_1 rfl (by decide) rfl ?_
  refine G_sub (L' := [(0, .ref r0), (1, .int l1), (2, .int l2), (3, .int (nI 0))]) [1, 2, 3, 0] rfl ?_
  exact h
theorem b_X1_link_2 {X : cX} {d : Nat} {μ : mM} {K : Option Value → mM → Prop} {r0 : Nat} {l1 : Int32} {l2 : Int32} {l3 : Int32} (hw5_r0 : WF5 μ r0) (hK : (iv μ r0 0) ≤ l3 → K none μ) (h : ¬ (iv μ r0 0) ≤ l3 → G X (Rm (d + 1)) mX1_link 13 [(0, .ref r0), (1, .int l1), (2, .int l2), (3, .int l3), (4, .int (nI 0))] [] μ 0 0 K) : G X (Rm (d + 1)) mX1_link 2 [(0, .ref r0), (1, .int l1), (2, .int l2), (3, .int l3)] [] μ 0 0 K := by
  refine G_iload_n d_X1_link_2 rfl 3 rfl ?_
  refine G_aload_n d_X1_link_3 rfl 0 rfl ?_
  refine G_getI 5 0 (w5_kd hw5_r0) cok5 (by decide) rfl fl_X1_59 d_X1_link_4 ?_
  refine G_icmp_ge (tgt := 79) d_X1_link_7 rfl (fun c0 => ?_) (fun c0 => ?_)
  ·
    exact G_vret rfl rfl rfl d_X1_link_79 (hK c0)
  ·
    refine G_iconst d_X1_link_10 ic_0 ?_
    refine G_istore (L' := [(4, .int (nI 0)), (0, .ref r0), (1, .int l1), (2, .int l2), (3, .int l3)]) d_X1_link_11 (by decide) rfl ?_
    refine G_sub (L' := [(0, .ref r0), (1, .int l1), (2, .int l2), (3, .int l3), (4, .int (nI 0))]) [1, 2, 3, 4, 0] rfl ?_
    exact (h c0)
theorem b_X1_link_13 {X : cX} {d : Nat} {μ : mM} {K : Option Value → mM → Prop} {r0 : Nat} {i1 : Nat} {i2 : Nat} {i3 : Nat} {i4 : Nat} (hw5_r0 : WF5 μ r0) (h : (iv μ r0 0) ≤ (nI i4) → G X (Rm (d + 1)) mX1_link 2 [(0, .ref r0), (1, .int (nI i1)), (2, .int (nI i2)), (3, .int (nI (i3 + 1)))] [] μ 0 0 K) (hb : ¬ (iv μ r0 0) ≤ (nI i4) → i1 < 3) (hb_2 : ¬ (iv μ r0 0) ≤ (nI i4) → i3 < 6) (hb_3 : ¬ (iv μ r0 0) ≤ (nI i4) → i2 < 3) (hb_4 : ¬ (iv μ r0 0) ≤ (nI i4) → i4 < 6) (h_2 : ¬ (iv μ r0 0) ≤ (nI i4) → G X (Rm (d + 1)) mX1_link 13 [(0, .ref r0), (1, .int (nI i1)), (2, .int (nI i2)), (3, .int (nI i3)), (4, .int (nI (i4 + 1)))] [] (wi μ (r0 + 7 + i3) i4 (if iv μ (r0 + 7 + i3) i4 < (if iv μ (r0 + 3 + i2) i4 < iv μ (r0 + 3 + i1) i3 then iv μ (r0 + 3 + i2) i4 else iv μ (r0 + 3 + i1) i3) then (if iv μ (r0 + 3 + i2) i4 < iv μ (r0 + 3 + i1) i3 then iv μ (r0 + 3 + i2) i4 else iv μ (r0 + 3 + i1) i3) else iv μ (r0 + 7 + i3) i4)) 0 0 K) : G X (Rm (d + 1)) mX1_link 13 [(0, .ref r0), (1, .int (nI i1)), (2, .int (nI i2)), (3, .int (nI i3)), (4, .int (nI i4))] [] μ 0 0 K := by
  refine G_iload d_X1_link_13 4 rfl ?_
  refine G_aload_n d_X1_link_15 rfl 0 rfl ?_
  refine G_getI 5 0 (w5_kd hw5_r0) cok5 (by decide) rfl fl_X1_59 d_X1_link_16 ?_
  refine G_icmp_ge (tgt := 73) d_X1_link_19 rfl (fun c0 => ?_) (fun c0 => ?_)
  ·
    refine G_iinc (L' := [(3, .int (nI (i3 + 1))), (0, .ref r0), (1, .int (nI i1)), (2, .int (nI i2)), (4, .int (nI i4))]) d_X1_link_73 3 rfl (inc1 i3) (by decide) rfl ?_
    refine G_goto (tgt := 2) d_X1_link_76 rfl ?_
    refine G_sub (L' := [(0, .ref r0), (1, .int (nI i1)), (2, .int (nI i2)), (3, .int (nI (i3 + 1)))]) [1, 2, 3, 0] rfl ?_
    exact (h c0)
  ·
    refine G_aload_n d_X1_link_22 rfl 0 rfl ?_
    refine G_getR (r := r0 + 2) 5 2 (w5_kd hw5_r0) (w5_f2 hw5_r0) cok5 (by decide) rfl fl_X1_32 d_X1_link_23 ?_
    refine G_iload_n d_X1_link_26 rfl 1 rfl ?_
    refine G_aaldA (r := r0 + 3 + i1) i1 (w5_k2 hw5_r0) rfl (hb c0) (w5_r2 hw5_r0 i1 (hb c0)) d_X1_link_27 ?_
    refine G_iload_n d_X1_link_28 rfl 3 rfl ?_
    refine G_iald i3 (w5_q2 hw5_r0 i1 (hb c0)) rfl (hb_2 c0) d_X1_link_29 ?_
    refine G_aload_n d_X1_link_30 rfl 0 rfl ?_
    refine G_getR (r := r0 + 2) 5 2 (w5_kd hw5_r0) (w5_f2 hw5_r0) cok5 (by decide) rfl fl_X1_32 d_X1_link_31 ?_
    refine G_iload_n d_X1_link_34 rfl 2 rfl ?_
    refine G_aaldA (r := r0 + 3 + i2) i2 (w5_k2 hw5_r0) rfl (hb_3 c0) (w5_r2 hw5_r0 i2 (hb_3 c0)) d_X1_link_35 ?_
    refine G_iload d_X1_link_36 4 rfl ?_
    refine G_iald i4 (w5_q2 hw5_r0 i2 (hb_3 c0)) rfl (hb_4 c0) d_X1_link_38 ?_
    refine G_min ml_X1_74 rb_Rm (Nat.le_of_ble_eq_true rfl) d_X1_link_39 ?_
    refine G_istore (L' := [(5, .int (if iv μ (r0 + 3 + i2) i4 < iv μ (r0 + 3 + i1) i3 then iv μ (r0 + 3 + i2) i4 else iv μ (r0 + 3 + i1) i3)), (0, .ref r0), (1, .int (nI i1)), (2, .int (nI i2)), (3, .int (nI i3)), (4, .int (nI i4))]) d_X1_link_42 (by decide) rfl ?_
    refine G_aload_n d_X1_link_44 rfl 1 rfl ?_
    refine G_getR (r := r0 + 6) 5 3 (w5_kd hw5_r0) (w5_f3 hw5_r0) cok5 (by decide) rfl fl_X1_71 d_X1_link_45 ?_
    refine G_iload_n d_X1_link_48 rfl 4 rfl ?_
    refine G_aaldA (r := r0 + 7 + i3) i3 (w5_k3 hw5_r0) rfl (hb_2 c0) (w5_r3 hw5_r0 i3 (hb_2 c0)) d_X1_link_49 ?_
    refine G_iload d_X1_link_50 5 rfl ?_
    refine G_aload_n d_X1_link_52 rfl 1 rfl ?_
    refine G_getR (r := r0 + 6) 5 3 (w5_kd hw5_r0) (w5_f3 hw5_r0) cok5 (by decide) rfl fl_X1_71 d_X1_link_53 ?_
    refine G_iload_n d_X1_link_56 rfl 4 rfl ?_
    refine G_aaldA (r := r0 + 7 + i3) i3 (w5_k3 hw5_r0) rfl (hb_2 c0) (w5_r3 hw5_r0 i3 (hb_2 c0)) d_X1_link_57 ?_
    refine G_iload d_X1_link_58 5 rfl ?_
    refine G_iald i4 (w5_q3 hw5_r0 i3 (hb_2 c0)) rfl (hb_4 c0) d_X1_link_60 ?_
    refine G_iload d_X1_link_61 0 rfl ?_
    refine G_max ml_X1_80 rb_Rm (Nat.le_of_ble_eq_true rfl) d_X1_link_63 ?_
    refine G_iast i4 (w5_q3 hw5_r0 i3 (hb_2 c0)) rfl (hb_4 c0) d_X1_link_66 ?_
    refine G_iinc (L' := [(4, .int (nI (i4 + 1))), (5, .int (if iv μ (r0 + 3 + i2) i4 < iv μ (r0 + 3 + i1) i3 then iv μ (r0 + 3 + i2) i4 else iv μ (r0 + 3 + i1) i3)), (0, .ref r0), (1, .int (nI i1)), (2, .int (nI i2)), (3, .int (nI i3))]) d_X1_link_67 5 rfl (inc1 i4) (by decide) rfl ?_
    refine G_goto (tgt := 13) d_X1_link_70 rfl ?_
    refine G_sub (L' := [(0, .ref r0), (1, .int (nI i1)), (2, .int (nI i2)), (3, .int (nI i3)), (4, .int (nI (i4 + 1)))]) [2, 3, 4, 5, 0] rfl ?_
    exact (h_2 c0)
theorem d_X5_append_0 : decode cX5_append 0 = .ok (.aload_n 0, 1) := by decide +kernel
theorem d_X5_append_1 : decode cX5_append 1 = .ok (.getfield 29, 3) := by decide +kernel
theorem d_X5_append_4 : decode cX5_append 4 = .ok (.bipush 6, 2) := by decide +kernel
theorem d_X5_append_6 : decode cX5_append 6 = .ok (.if_icmp .ge 23, 3) := by decide +kernel
theorem d_X5_append_9 : decode cX5_append 9 = .ok (.aload_n 0, 1) := by decide +kernel
theorem d_X5_append_10 : decode cX5_append 10 = .ok (.getfield 9, 3) := by decide +kernel
theorem d_X5_append_13 : decode cX5_append 13 = .ok (.aload_n 0, 1) := by decide +kernel
theorem d_X5_append_14 : decode cX5_append 14 = .ok (.getfield 29, 3) := by decide +kernel
theorem d_X5_append_17 : decode cX5_append 17 = .ok (.iload_n 1, 1) := by decide +kernel
theorem d_X5_append_18 : decode cX5_append 18 = .ok (.bastore, 1) := by decide +kernel
theorem d_X5_append_19 : decode cX5_append 19 = .ok (.aload_n 0, 1) := by decide +kernel
theorem d_X5_append_20 : decode cX5_append 20 = .ok (.dup, 1) := by decide +kernel
theorem d_X5_append_21 : decode cX5_append 21 = .ok (.getfield 29, 3) := by decide +kernel
theorem d_X5_append_24 : decode cX5_append 24 = .ok (.iconst 1, 1) := by decide +kernel
theorem d_X5_append_25 : decode cX5_append 25 = .ok (.iadd, 1) := by decide +kernel
theorem d_X5_append_26 : decode cX5_append 26 = .ok (.putfield 29, 3) := by decide +kernel
theorem d_X5_append_29 : decode cX5_append 29 = .ok (.return_, 1) := by decide +kernel
theorem b_X5_append_0 {X : cX} {d : Nat} {μ : mM} {K : Option Value → mM → Prop} {r0 : Nat} {l1 : Int32} {j0 : Nat} (hw5_r0 : WF5 μ r0) (hK : (6 : Int32) ≤ (iv μ r0 0) → K none μ) (hi_j0 : ¬ (6 : Int32) ≤ (iv μ r0 0) → iv μ r0 0 = nI j0) (hb : ¬ (6 : Int32) ≤ (iv μ r0 0) → j0 < 6) (hz : ¬ (6 : Int32) ≤ (iv μ r0 0) → l1 = 0 ∨ l1 = 1) (hK_2 : ¬ (6 : Int32) ≤ (iv μ r0 0) → K none (wi (wi μ (r0 + 1) j0 l1) r0 0 ((iv (wi μ (r0 + 1) j0 l1) r0 0) + 1))) : G X (Rm d) mX5_append 0 [(0, .ref r0), (1, .int l1)] [] μ 0 0 K := by
  refine G_aload_n d_X5_append_0 rfl 0 rfl ?_
  refine G_getI 5 0 (w5_kd hw5_r0) cok5 (by decide) rfl fl_X5_29 d_X5_append_1 ?_
  refine G_bipush d_X5_append_4 bp_6 ?_
  refine G_icmp_ge (tgt := 29) d_X5_append_6 rfl (fun c0 => ?_) (fun c0 => ?_)
  ·
    exact G_vret rfl rfl rfl d_X5_append_29 (hK c0)
  ·
    refine G_aload_n d_X5_append_9 rfl 0 rfl ?_
    refine G_getR (r := r0 + 1) 5 1 (w5_kd hw5_r0) (w5_f1 hw5_r0) cok5 (by decide) rfl fl_X5_9 d_X5_append_10 ?_
    refine G_aload_n d_X5_append_13 rfl 0 rfl ?_
    refine G_getI 5 0 (w5_kd hw5_r0) cok5 (by decide) rfl fl_X5_29 d_X5_append_14 ?_
    refine G_iload_n d_X5_append_17 rfl 1 rfl ?_
    refine G_zast (v := l1) j0 (w5_k1 hw5_r0) (hi_j0 c0) (hb c0) (vpn_b (hz c0)) d_X5_append_18 ?_
    refine G_aload_n d_X5_append_19 rfl 0 rfl ?_
    refine G_dup d_X5_append_20 rfl ?_
    refine G_getI 5 0 (w5_kd hw5_r0) cok5 (by decide) rfl fl_X5_29 d_X5_append_21 ?_
    refine G_iconst d_X5_append_24 ic_1 ?_
    refine G_iadd d_X5_append_25 ?_
    refine G_putI 5 0 (w5_kd hw5_r0) rfl rfl cok5 (by decide) rfl (Or.inl rfl) fl_X5_29 d_X5_append_26 ?_
    exact G_vret rfl rfl rfl d_X5_append_29 (hK_2 c0)
theorem d_X1_perform_0 : decode cX1_perform 0 = .ok (.iload_n 2, 1) := by decide +kernel
theorem d_X1_perform_1 : decode cX1_perform 1 = .ok (.ifCond .lt 15, 3) := by decide +kernel
theorem d_X1_perform_4 : decode cX1_perform 4 = .ok (.iload_n 2, 1) := by decide +kernel
theorem d_X1_perform_5 : decode cX1_perform 5 = .ok (.iconst 5, 1) := by decide +kernel
theorem d_X1_perform_6 : decode cX1_perform 6 = .ok (.if_icmp .gt 10, 3) := by decide +kernel
theorem d_X1_perform_9 : decode cX1_perform 9 = .ok (.iload_n 3, 1) := by decide +kernel
theorem d_X1_perform_10 : decode cX1_perform 10 = .ok (.invokestatic 15, 3) := by decide +kernel
theorem d_X1_perform_13 : decode cX1_perform 13 = .ok (.ifCond .ne 5, 3) := by decide +kernel
theorem d_X1_perform_16 : decode cX1_perform 16 = .ok (.iconst (-1), 1) := by decide +kernel
theorem d_X1_perform_17 : decode cX1_perform 17 = .ok (.ireturn, 1) := by decide +kernel
theorem d_X1_perform_18 : decode cX1_perform 18 = .ok (.iload_n 2, 1) := by decide +kernel
theorem d_X1_perform_19 : decode cX1_perform 19 = .ok (.invokestatic 19, 3) := by decide +kernel
theorem d_X1_perform_22 : decode cX1_perform 22 = .ok (.ifCond .eq 13, 3) := by decide +kernel
theorem d_X1_perform_25 : decode cX1_perform 25 = .ok (.iload 4, 2) := by decide +kernel
theorem d_X1_perform_27 : decode cX1_perform 27 = .ok (.invokestatic 15, 3) := by decide +kernel
theorem d_X1_perform_30 : decode cX1_perform 30 = .ok (.ifCond .ne 5, 3) := by decide +kernel
theorem d_X1_perform_33 : decode cX1_perform 33 = .ok (.iconst (-1), 1) := by decide +kernel
theorem d_X1_perform_34 : decode cX1_perform 34 = .ok (.ireturn, 1) := by decide +kernel
theorem d_X1_perform_35 : decode cX1_perform 35 = .ok (.iload_n 2, 1) := by decide +kernel
theorem d_X1_perform_36 : decode cX1_perform 36 = .ok (.iconst 5, 1) := by decide +kernel
theorem d_X1_perform_37 : decode cX1_perform 37 = .ok (.if_icmp .ne 13, 3) := by decide +kernel
theorem d_X1_perform_40 : decode cX1_perform 40 = .ok (.aload_n 1, 1) := by decide +kernel
theorem d_X1_perform_41 : decode cX1_perform 41 = .ok (.invokevirtual 22, 3) := by decide +kernel
theorem d_X1_perform_44 : decode cX1_perform 44 = .ok (.ifCond .eq 6, 3) := by decide +kernel
theorem d_X1_perform_47 : decode cX1_perform 47 = .ok (.bipush (-3), 2) := by decide +kernel
theorem d_X1_perform_49 : decode cX1_perform 49 = .ok (.ireturn, 1) := by decide +kernel
theorem d_X1_perform_50 : decode cX1_perform 50 = .ok (.aload_n 1, 1) := by decide +kernel
theorem d_X1_perform_51 : decode cX1_perform 51 = .ok (.iload_n 2, 1) := by decide +kernel
theorem d_X1_perform_52 : decode cX1_perform 52 = .ok (.iload_n 3, 1) := by decide +kernel
theorem d_X1_perform_53 : decode cX1_perform 53 = .ok (.iload 4, 2) := by decide +kernel
theorem d_X1_perform_55 : decode cX1_perform 55 = .ok (.invokestatic 28, 3) := by decide +kernel
theorem d_X1_perform_58 : decode cX1_perform 58 = .ok (.istore 5, 2) := by decide +kernel
theorem d_X1_perform_60 : decode cX1_perform 60 = .ok (.iload_n 2, 1) := by decide +kernel
theorem d_X1_perform_61 : decode cX1_perform 61 = .ok (.tableswitch 105 0 4 #[35, 48, 71, 82, 90], 35) := by decide +kernel
theorem d_X1_perform_96 : decode cX1_perform 96 = .ok (.aload_n 1, 1) := by decide +kernel
theorem d_X1_perform_97 : decode cX1_perform 97 = .ok (.getfield 32, 3) := by decide +kernel
theorem d_X1_perform_100 : decode cX1_perform 100 = .ok (.iload_n 3, 1) := by decide +kernel
theorem d_X1_perform_101 : decode cX1_perform 101 = .ok (.aaload, 1) := by decide +kernel
theorem d_X1_perform_102 : decode cX1_perform 102 = .ok (.iconst 0, 1) := by decide +kernel
theorem d_X1_perform_103 : decode cX1_perform 103 = .ok (.invokestatic 36, 3) := by decide +kernel
theorem d_X1_perform_106 : decode cX1_perform 106 = .ok (.goto 87, 3) := by decide +kernel
theorem d_X1_perform_109 : decode cX1_perform 109 = .ok (.aload_n 1, 1) := by decide +kernel
theorem d_X1_perform_110 : decode cX1_perform 110 = .ok (.getfield 32, 3) := by decide +kernel
theorem d_X1_perform_113 : decode cX1_perform 113 = .ok (.iload 4, 2) := by decide +kernel
theorem d_X1_perform_115 : decode cX1_perform 115 = .ok (.aaload, 1) := by decide +kernel
theorem d_X1_perform_116 : decode cX1_perform 116 = .ok (.iconst 0, 1) := by decide +kernel
theorem d_X1_perform_117 : decode cX1_perform 117 = .ok (.aload_n 1, 1) := by decide +kernel
theorem d_X1_perform_118 : decode cX1_perform 118 = .ok (.getfield 32, 3) := by decide +kernel
theorem d_X1_perform_121 : decode cX1_perform 121 = .ok (.iload_n 3, 1) := by decide +kernel
theorem d_X1_perform_122 : decode cX1_perform 122 = .ok (.aaload, 1) := by decide +kernel
theorem d_X1_perform_123 : decode cX1_perform 123 = .ok (.iconst 0, 1) := by decide +kernel
theorem d_X1_perform_124 : decode cX1_perform 124 = .ok (.bipush 6, 2) := by decide +kernel
theorem d_X1_perform_126 : decode cX1_perform 126 = .ok (.invokestatic 42, 3) := by decide +kernel
theorem d_X1_perform_129 : decode cX1_perform 129 = .ok (.goto 64, 3) := by decide +kernel
theorem d_X1_perform_132 : decode cX1_perform 132 = .ok (.aload_n 0, 1) := by decide +kernel
theorem d_X1_perform_133 : decode cX1_perform 133 = .ok (.aload_n 1, 1) := by decide +kernel
theorem d_X1_perform_134 : decode cX1_perform 134 = .ok (.iload_n 3, 1) := by decide +kernel
theorem d_X1_perform_135 : decode cX1_perform 135 = .ok (.iload 4, 2) := by decide +kernel
theorem d_X1_perform_137 : decode cX1_perform 137 = .ok (.invokevirtual 48, 3) := by decide +kernel
theorem d_X1_perform_140 : decode cX1_perform 140 = .ok (.goto 53, 3) := by decide +kernel
theorem d_X1_perform_143 : decode cX1_perform 143 = .ok (.aload_n 1, 1) := by decide +kernel
theorem d_X1_perform_144 : decode cX1_perform 144 = .ok (.iload_n 3, 1) := by decide +kernel
theorem d_X1_perform_145 : decode cX1_perform 145 = .ok (.invokestatic 52, 3) := by decide +kernel
theorem d_X1_perform_148 : decode cX1_perform 148 = .ok (.goto 45, 3) := by decide +kernel
theorem d_X1_perform_151 : decode cX1_perform 151 = .ok (.aload_n 1, 1) := by decide +kernel
theorem d_X1_perform_152 : decode cX1_perform 152 = .ok (.iload_n 3, 1) := by decide +kernel
theorem d_X1_perform_153 : decode cX1_perform 153 = .ok (.invokestatic 52, 3) := by decide +kernel
theorem d_X1_perform_156 : decode cX1_perform 156 = .ok (.aload_n 1, 1) := by decide +kernel
theorem d_X1_perform_157 : decode cX1_perform 157 = .ok (.iload_n 3, 1) := by decide +kernel
theorem d_X1_perform_158 : decode cX1_perform 158 = .ok (.iload 4, 2) := by decide +kernel
theorem d_X1_perform_160 : decode cX1_perform 160 = .ok (.invokestatic 56, 3) := by decide +kernel
theorem d_X1_perform_163 : decode cX1_perform 163 = .ok (.goto 30, 3) := by decide +kernel
theorem d_X1_perform_166 : decode cX1_perform 166 = .ok (.aload_n 1, 1) := by decide +kernel
theorem d_X1_perform_167 : decode cX1_perform 167 = .ok (.getfield 32, 3) := by decide +kernel
theorem d_X1_perform_170 : decode cX1_perform 170 = .ok (.iload_n 3, 1) := by decide +kernel
theorem d_X1_perform_171 : decode cX1_perform 171 = .ok (.aaload, 1) := by decide +kernel
theorem d_X1_perform_172 : decode cX1_perform 172 = .ok (.iconst 0, 1) := by decide +kernel
theorem d_X1_perform_173 : decode cX1_perform 173 = .ok (.invokestatic 36, 3) := by decide +kernel
theorem d_X1_perform_176 : decode cX1_perform 176 = .ok (.aload_n 1, 1) := by decide +kernel
theorem d_X1_perform_177 : decode cX1_perform 177 = .ok (.getfield 32, 3) := by decide +kernel
theorem d_X1_perform_180 : decode cX1_perform 180 = .ok (.iload_n 3, 1) := by decide +kernel
theorem d_X1_perform_181 : decode cX1_perform 181 = .ok (.aaload, 1) := by decide +kernel
theorem d_X1_perform_182 : decode cX1_perform 182 = .ok (.aload_n 1, 1) := by decide +kernel
theorem d_X1_perform_183 : decode cX1_perform 183 = .ok (.getfield 59, 3) := by decide +kernel
theorem d_X1_perform_186 : decode cX1_perform 186 = .ok (.iconst 2, 1) := by decide +kernel
theorem d_X1_perform_187 : decode cX1_perform 187 = .ok (.iastore, 1) := by decide +kernel
theorem d_X1_perform_188 : decode cX1_perform 188 = .ok (.aload_n 1, 1) := by decide +kernel
theorem d_X1_perform_189 : decode cX1_perform 189 = .ok (.iconst 0, 1) := by decide +kernel
theorem d_X1_perform_190 : decode cX1_perform 190 = .ok (.invokevirtual 63, 3) := by decide +kernel
theorem d_X1_perform_193 : decode cX1_perform 193 = .ok (.iload 5, 2) := by decide +kernel
theorem d_X1_perform_195 : decode cX1_perform 195 = .ok (.ireturn, 1) := by decide +kernel
theorem b_X1_perform_0 {X : cX} {d : Nat} {μ : mM} {K : Option Value → mM → Prop} {r0 : Nat} {r1 : Nat} {l2 : Int32} {l3 : Int32} {l4 : Int32} (hK : l2 < 0 → K (some (.int (-1))) μ) (hK_2 : ¬ l2 < 0 → (5 : Int32) < l2 → K (some (.int (-1))) μ) (h : ¬ l2 < 0 → ¬ (5 : Int32) < l2 → ¬ (e_X11_isVariable μ l3) = 0 → (e_X1_looksAtOther μ l2) = 0 → G X (Rm (d + 3)) mX1_perform 35 [(0, .ref r0), (1, .ref r1), (2, .int l2), (3, .int l3), (4, .int l4)] [] μ 0 0 K) (h_2 : ¬ l2 < 0 → ¬ (5 : Int32) < l2 → ¬ (e_X11_isVariable μ l3) = 0 → ¬ (e_X1_looksAtOther μ l2) = 0 → ¬ (e_X11_isVariable μ l4) = 0 → G X (Rm (d + 3)) mX1_perform 35 [(0, .ref r0), (1, .ref r1), (2, .int l2), (3, .int l3), (4, .int l4)] [] μ 0 0 K) (hK_3 : ¬ l2 < 0 → ¬ (5 : Int32) < l2 → ¬ (e_X11_isVariable μ l3) = 0 → ¬ (e_X1_looksAtOther μ l2) = 0 → (e_X11_isVariable μ l4) = 0 → K (some (.int (-1))) μ) (hK_4 : ¬ l2 < 0 → ¬ (5 : Int32) < l2 → (e_X11_isVariable μ l3) = 0 → K (some (.int (-1))) μ) : G X (Rm (d + 3)) mX1_perform 0 [(0, .ref r0), (1, .ref r1), (2, .int l2), (3, .int l3), (4, .int l4)] [] μ 0 0 K := by
  refine G_iload_n d_X1_perform_0 rfl 2 rfl ?_
  refine G_if_lt (tgt := 16) d_X1_perform_1 rfl (fun c0 => ?_) (fun c0 => ?_)
  ·
    refine G_iconst d_X1_perform_16 ic_m1 ?_
    exact G_iret rfl rfl rfl d_X1_perform_17 (hK c0)
  ·
    refine G_iload_n d_X1_perform_4 rfl 2 rfl ?_
    refine G_iconst d_X1_perform_5 ic_5 ?_
    refine G_icmp_gt (tgt := 16) d_X1_perform_6 rfl (fun c1 => ?_) (fun c1 => ?_)
    ·
      refine G_iconst d_X1_perform_16 ic_m1 ?_
      exact G_iret rfl rfl rfl d_X1_perform_17 (hK_2 c0 c1)
    ·
      refine G_iload_n d_X1_perform_9 rfl 3 rfl ?_
      refine G_callSN (M' := mX11_isVariable) (R' := (Rm (d + 2))) (S := []) (host := RX11) [.int l3] ok_X11_isVariable (List.mem_of_getElem? (i := 13) rfl) pn_X11_isVariable (ru_Rm (by decide)) (Nat.le_of_ble_eq_true rfl) d_X1_perform_10 (s_X11_isVariable (μ := μ)   ?_)
      show G X (Rm (d + 3)) mX1_perform 13 [(0, .ref r0), (1, .ref r1), (2, .int l2), (3, .int l3), (4, .int l4)] [.int (e_X11_isVariable μ l3)] μ 0 0 K
      refine G_if_ne (tgt := 18) d_X1_perform_13 rfl (fun c2 => ?_) (fun c2 => ?_)
      ·
        refine G_iload_n d_X1_perform_18 rfl 2 rfl ?_
        refine G_callS (M' := mX1_looksAtOther) (R' := (Rm (d + 2))) (S := []) [.int l2] ok_X1_looksAtOther ml_X1_19 pn_X1_looksAtOther (ru_Rm (by decide)) (Nat.le_of_ble_eq_true rfl) d_X1_perform_19 (s_X1_looksAtOther (μ := μ)   ?_)
        show G X (Rm (d + 3)) mX1_perform 22 [(0, .ref r0), (1, .ref r1), (2, .int l2), (3, .int l3), (4, .int l4)] [.int (e_X1_looksAtOther μ l2)] μ 0 0 K
        refine G_if_eq (tgt := 35) d_X1_perform_22 rfl (fun c3 => ?_) (fun c3 => ?_)
        ·
          exact (h c0 c1 c2 c3)
        ·
          refine G_iload d_X1_perform_25 4 rfl ?_
          refine G_callSN (M' := mX11_isVariable) (R' := (Rm (d + 2))) (S := []) (host := RX11) [.int l4] ok_X11_isVariable (List.mem_of_getElem? (i := 13) rfl) pn_X11_isVariable (ru_Rm (by decide)) (Nat.le_of_ble_eq_true rfl) d_X1_perform_27 (s_X11_isVariable (μ := μ)   ?_)
          show G X (Rm (d + 3)) mX1_perform 30 [(0, .ref r0), (1, .ref r1), (2, .int l2), (3, .int l3), (4, .int l4)] [.int (e_X11_isVariable μ l4)] μ 0 0 K
          refine G_if_ne (tgt := 35) d_X1_perform_30 rfl (fun c4 => ?_) (fun c4 => ?_)
          ·
            exact (h_2 c0 c1 c2 c3 c4)
          ·
            refine G_iconst d_X1_perform_33 ic_m1 ?_
            exact G_iret rfl rfl rfl d_X1_perform_34 (hK_3 c0 c1 c2 c3 c4)
      ·
        refine G_iconst d_X1_perform_16 ic_m1 ?_
        exact G_iret rfl rfl rfl d_X1_perform_17 (hK_4 c0 c1 c2)
theorem b_X1_perform_35 {X : cX} {d : Nat} {μ : mM} {K : Option Value → mM → Prop} {r0 : Nat} {r1 : Nat} {l2 : Int32} {l3 : Int32} {l4 : Int32} (h : ¬ l2 = (5 : Int32) → G X (Rm (d + 3)) mX1_perform 50 [(0, .ref r0), (1, .ref r1), (2, .int l2), (3, .int l3), (4, .int l4)] [] μ 0 0 K) (hw5_r1 : WF5 μ r1) (h_2 : l2 = (5 : Int32) → (e_X5_isFull μ r1) = 0 → G X (Rm (d + 3)) mX1_perform 50 [(0, .ref r0), (1, .ref r1), (2, .int l2), (3, .int l3), (4, .int l4)] [] μ 0 0 K) (hK : l2 = (5 : Int32) → ¬ (e_X5_isFull μ r1) = 0 → K (some (.int (-3))) μ) : G X (Rm (d + 3)) mX1_perform 35 [(0, .ref r0), (1, .ref r1), (2, .int l2), (3, .int l3), (4, .int l4)] [] μ 0 0 K := by
  refine G_iload_n d_X1_perform_35 rfl 2 rfl ?_
  refine G_iconst d_X1_perform_36 ic_5 ?_
  refine G_icmp_ne (tgt := 50) d_X1_perform_37 rfl (fun c0 => ?_) (fun c0 => ?_)
  ·
    exact (h c0)
  ·
    refine G_aload_n d_X1_perform_40 rfl 1 rfl ?_
    refine G_callV (M' := mX5_isFull) (R' := (Rm (d + 2))) (S := []) [] 5 (w5_kd hw5_r1) cok5 rfl ok_X5_isFull ml_X1_22 pn_X5_isFull (ru_Rm (by decide)) (Nat.le_of_ble_eq_true rfl) d_X1_perform_41 (s_X5_isFull (μ := μ)  hw5_r1 ?_)
    show G X (Rm (d + 3)) mX1_perform 44 [(0, .ref r0), (1, .ref r1), (2, .int l2), (3, .int l3), (4, .int l4)] [.int (e_X5_isFull μ r1)] μ 0 0 K
    refine G_if_eq (tgt := 50) d_X1_perform_44 rfl (fun c1 => ?_) (fun c1 => ?_)
    ·
      exact (h_2 c0 c1)
    ·
      refine G_bipush d_X1_perform_47 bp_m3 ?_
      exact G_iret rfl rfl rfl d_X1_perform_49 (hK c0 c1)
theorem b_X1_perform_50 {X : cX} {d : Nat} {μ : mM} {K : Option Value → mM → Prop} {r0 : Nat} {r1 : Nat} {l2 : Int32} {l3 : Int32} {l4 : Int32} (hc_answerAhead : Ct X (Rm (d + 2)) mX1_answerAhead [.ref r1, .int l2, .int l3, .int l4] μ (fun r μ2 => G X (Rm (d + 3)) mX1_perform 58 [(0, .ref r0), (1, .ref r1), (2, .int l2), (3, .int l3), (4, .int l4)] (r.toList ++ []) μ2 0 0 K)) : G X (Rm (d + 3)) mX1_perform 50 [(0, .ref r0), (1, .ref r1), (2, .int l2), (3, .int l3), (4, .int l4)] [] μ 0 0 K := by
  refine G_aload_n d_X1_perform_50 rfl 1 rfl ?_
  refine G_iload_n d_X1_perform_51 rfl 2 rfl ?_
  refine G_iload_n d_X1_perform_52 rfl 3 rfl ?_
  refine G_iload d_X1_perform_53 4 rfl ?_
  refine G_callS (M' := mX1_answerAhead) (R' := (Rm (d + 2))) (S := []) [.ref r1, .int l2, .int l3, .int l4] ok_X1_answerAhead ml_X1_28 pn_X1_answerAhead (ru_Rm (by decide)) (Nat.le_of_ble_eq_true rfl) d_X1_perform_55 ?_
  exact hc_answerAhead
theorem b_X1_perform_58 {X : cX} {d : Nat} {μ : mM} {K : Option Value → mM → Prop} {r0 : Nat} {r1 : Nat} {l2 : Int32} {i3 : Nat} {i4 : Nat} {v0 : Int32} (hw5_r1 : WF5 μ r1) (hb : l2 = 0 → i3 < 3) (hc_fill : l2 = 0 → Ct X (Rm (d + 2)) mJ7_fill_53178 [.ref (r1 + 3 + i3), .int 0] μ (fun r μ2 => G X (Rm (d + 3)) mX1_perform 106 [(5, .int v0)] (r.toList ++ []) μ2 0 0 K)) (hb_2 : l2 = 1 → i4 < 3) (hb_3 : l2 = 1 → i3 < 3) (h : l2 = 1 → G X (Rm (d + 3)) mX1_perform 193 [(5, .int v0)] [] (cpI μ (r1 + 3 + i4) 0 (r1 + 3 + i3) 0 6) 0 0 K) (hw1_r0 : WF1 μ r0) (hc_follow : l2 = 2 → Ct X (Rm (d + 2)) mX1_follow [.ref r0, .ref r1, .int (nI i3), .int (nI i4)] μ (fun r μ2 => G X (Rm (d + 3)) mX1_perform 140 [(5, .int v0)] (r.toList ++ []) μ2 0 0 K)) (hc_cut : l2 = 3 → Ct X (Rm (d + 2)) mX1_cut [.ref r1, .int (nI i3)] μ (fun r μ2 => G X (Rm (d + 3)) mX1_perform 148 [(5, .int v0)] (r.toList ++ []) μ2 0 0 K)) (hc_cut_2 : l2 = 4 → Ct X (Rm (d + 2)) mX1_cut [.ref r1, .int (nI i3)] μ (fun r μ2 => G X (Rm (d + 3)) mX1_perform 156 [(1, .ref r1), (3, .int (nI i3)), (4, .int (nI i4)), (5, .int v0)] (r.toList ++ []) μ2 0 0 K)) (hb_4 : (l2.toInt < 0 ∨ 4 < l2.toInt) → i3 < 3) (hc_fill_2 : (l2.toInt < 0 ∨ 4 < l2.toInt) → Ct X (Rm (d + 2)) mJ7_fill_53178 [.ref (r1 + 3 + i3), .int 0] μ (fun r μ2 => G X (Rm (d + 3)) mX1_perform 176 [(1, .ref r1), (3, .int (nI i3)), (5, .int v0)] (r.toList ++ []) μ2 0 0 K)) : G X (Rm (d + 3)) mX1_perform 58 [(0, .ref r0), (1, .ref r1), (2, .int l2), (3, .int (nI i3)), (4, .int (nI i4))] [.int v0] μ 0 0 K := by
  refine G_istore (L' := [(5, .int v0), (0, .ref r0), (1, .ref r1), (2, .int l2), (3, .int (nI i3)), (4, .int (nI i4))]) d_X1_perform_58 (by decide) rfl ?_
  refine G_iload_n d_X1_perform_60 rfl 3 rfl ?_
  by_cases c0 : l2 = 0
  ·
    refine G_tableIn (tgt := 96) (off := 35) d_X1_perform_61 (by rw [c0]; decide) (by rw [c0]; decide) (by rw [c0]; decide) rfl ?_
    refine G_aload_n d_X1_perform_96 rfl 2 rfl ?_
    refine G_getR (r := r1 + 2) 5 2 (w5_kd hw5_r1) (w5_f2 hw5_r1) cok5 (by decide) rfl fl_X1_32 d_X1_perform_97 ?_
    refine G_iload_n d_X1_perform_100 rfl 4 rfl ?_
    refine G_aaldA (r := r1 + 3 + i3) i3 (w5_k2 hw5_r1) rfl (hb c0) (w5_r2 hw5_r1 i3 (hb c0)) d_X1_perform_101 ?_
    refine G_iconst d_X1_perform_102 ic_0 ?_
    refine G_sub (L' := [(5, .int v0)]) [0] rfl ?_
    refine G_callS (M' := mJ7_fill_53178) (R' := (Rm (d + 2))) (S := []) [.ref (r1 + 3 + i3), .int 0] ok_J7_fill_53178 ml_X1_36 pn_J7_fill_53178 (ru_Rm (by decide)) (Nat.le_of_ble_eq_true rfl) d_X1_perform_103 ?_
    exact (hc_fill c0)
  have z0 := lv_neT c0 (show (0 : Int32).toInt = 0 from rfl)
  by_cases c0 : l2 = 1
  ·
    refine G_tableIn (tgt := 109) (off := 48) d_X1_perform_61 (by rw [c0]; decide) (by rw [c0]; decide) (by rw [c0]; decide) rfl ?_
    refine G_aload_n d_X1_perform_109 rfl 2 rfl ?_
    refine G_getR (r := r1 + 2) 5 2 (w5_kd hw5_r1) (w5_f2 hw5_r1) cok5 (by decide) rfl fl_X1_32 d_X1_perform_110 ?_
    refine G_iload d_X1_perform_113 5 rfl ?_
    refine G_aaldA (r := r1 + 3 + i4) i4 (w5_k2 hw5_r1) rfl (hb_2 c0) (w5_r2 hw5_r1 i4 (hb_2 c0)) d_X1_perform_115 ?_
    refine G_iconst d_X1_perform_116 ic_0 ?_
    refine G_aload_n d_X1_perform_117 rfl 2 rfl ?_
    refine G_getR (r := r1 + 2) 5 2 (w5_kd hw5_r1) (w5_f2 hw5_r1) cok5 (by decide) rfl fl_X1_32 d_X1_perform_118 ?_
    refine G_iload_n d_X1_perform_121 rfl 4 rfl ?_
    refine G_aaldA (r := r1 + 3 + i3) i3 (w5_k2 hw5_r1) rfl (hb_3 c0) (w5_r2 hw5_r1 i3 (hb_3 c0)) d_X1_perform_122 ?_
    refine G_iconst d_X1_perform_123 ic_0 ?_
    refine G_bipush d_X1_perform_124 bp_6 ?_
    refine G_copy (sp := 0) (dp := 0) (n := 6) (w5_q2 hw5_r1 i4 (hb_2 c0)) (w5_q2 hw5_r1 i3 (hb_3 c0)) rfl rfl rfl (by decide) (by decide) ml_X1_42 rb_Rm (Nat.le_of_ble_eq_true rfl) d_X1_perform_126 ?_
    refine G_goto (tgt := 193) d_X1_perform_129 rfl ?_
    refine G_sub (L' := [(5, .int v0)]) [0] rfl ?_
    exact (h c0)
  have z1 := lv_neT c0 (show (1 : Int32).toInt = 1 from rfl)
  by_cases c0 : l2 = 2
  ·
    refine G_tableIn (tgt := 132) (off := 71) d_X1_perform_61 (by rw [c0]; decide) (by rw [c0]; decide) (by rw [c0]; decide) rfl ?_
    refine G_aload_n d_X1_perform_132 rfl 1 rfl ?_
    refine G_aload_n d_X1_perform_133 rfl 2 rfl ?_
    refine G_iload_n d_X1_perform_134 rfl 4 rfl ?_
    refine G_iload d_X1_perform_135 5 rfl ?_
    refine G_sub (L' := [(5, .int v0)]) [0] rfl ?_
    refine G_callV (M' := mX1_follow) (R' := (Rm (d + 2))) (S := []) [.ref r1, .int (nI i3), .int (nI i4)] 1 (w1_kd hw1_r0) cok1 rfl ok_X1_follow ml_X1_48 pn_X1_follow (ru_Rm (by decide)) (Nat.le_of_ble_eq_true rfl) d_X1_perform_137 ?_
    exact (hc_follow c0)
  have z2 := lv_neT c0 (show (2 : Int32).toInt = 2 from rfl)
  by_cases c0 : l2 = 3
  ·
    refine G_tableIn (tgt := 143) (off := 82) d_X1_perform_61 (by rw [c0]; decide) (by rw [c0]; decide) (by rw [c0]; decide) rfl ?_
    refine G_aload_n d_X1_perform_143 rfl 2 rfl ?_
    refine G_iload_n d_X1_perform_144 rfl 4 rfl ?_
    refine G_sub (L' := [(5, .int v0)]) [0] rfl ?_
    refine G_callS (M' := mX1_cut) (R' := (Rm (d + 2))) (S := []) [.ref r1, .int (nI i3)] ok_X1_cut ml_X1_52 pn_X1_cut (ru_Rm (by decide)) (Nat.le_of_ble_eq_true rfl) d_X1_perform_145 ?_
    exact (hc_cut c0)
  have z3 := lv_neT c0 (show (3 : Int32).toInt = 3 from rfl)
  by_cases c0 : l2 = 4
  ·
    refine G_tableIn (tgt := 151) (off := 90) d_X1_perform_61 (by rw [c0]; decide) (by rw [c0]; decide) (by rw [c0]; decide) rfl ?_
    refine G_aload_n d_X1_perform_151 rfl 2 rfl ?_
    refine G_iload_n d_X1_perform_152 rfl 4 rfl ?_
    refine G_sub (L' := [(1, .ref r1), (3, .int (nI i3)), (4, .int (nI i4)), (5, .int v0)]) [2, 4, 5, 0] rfl ?_
    refine G_callS (M' := mX1_cut) (R' := (Rm (d + 2))) (S := []) [.ref r1, .int (nI i3)] ok_X1_cut ml_X1_52 pn_X1_cut (ru_Rm (by decide)) (Nat.le_of_ble_eq_true rfl) d_X1_perform_153 ?_
    exact (hc_cut_2 c0)
  have z4 := lv_neT c0 (show (4 : Int32).toInt = 4 from rfl)
  have c0 : l2.toInt < 0 ∨ 4 < l2.toInt := by omega
  refine G_tableOut (tgt := 166) d_X1_perform_61 c0 rfl ?_
  refine G_aload_n d_X1_perform_166 rfl 2 rfl ?_
  refine G_getR (r := r1 + 2) 5 2 (w5_kd hw5_r1) (w5_f2 hw5_r1) cok5 (by decide) rfl fl_X1_32 d_X1_perform_167 ?_
  refine G_iload_n d_X1_perform_170 rfl 4 rfl ?_
  refine G_aaldA (r := r1 + 3 + i3) i3 (w5_k2 hw5_r1) rfl (hb_4 c0) (w5_r2 hw5_r1 i3 (hb_4 c0)) d_X1_perform_171 ?_
  refine G_iconst d_X1_perform_172 ic_0 ?_
  refine G_sub (L' := [(1, .ref r1), (3, .int (nI i3)), (5, .int v0)]) [2, 4, 0] rfl ?_
  refine G_callS (M' := mJ7_fill_53178) (R' := (Rm (d + 2))) (S := []) [.ref (r1 + 3 + i3), .int 0] ok_J7_fill_53178 ml_X1_36 pn_J7_fill_53178 (ru_Rm (by decide)) (Nat.le_of_ble_eq_true rfl) d_X1_perform_173 ?_
  exact (hc_fill_2 c0)
theorem b_X1_perform_106 {X : cX} {d : Nat} {μ : mM} {K : Option Value → mM → Prop} {l5 : Int32} (h : G X (Rm (d + 3)) mX1_perform 193 [(5, .int l5)] [] μ 0 0 K) : G X (Rm (d + 3)) mX1_perform 106 [(5, .int l5)] [] μ 0 0 K := by
  refine G_goto (tgt := 193) d_X1_perform_106 rfl ?_
  exact h
theorem b_X1_perform_140 {X : cX} {d : Nat} {μ : mM} {K : Option Value → mM → Prop} {l5 : Int32} (h : G X (Rm (d + 3)) mX1_perform 193 [(5, .int l5)] [] μ 0 0 K) : G X (Rm (d + 3)) mX1_perform 140 [(5, .int l5)] [] μ 0 0 K := by
  refine G_goto (tgt := 193) d_X1_perform_140 rfl ?_
  exact h
theorem b_X1_perform_148 {X : cX} {d : Nat} {μ : mM} {K : Option Value → mM → Prop} {l5 : Int32} (h : G X (Rm (d + 3)) mX1_perform 193 [(5, .int l5)] [] μ 0 0 K) : G X (Rm (d + 3)) mX1_perform 148 [(5, .int l5)] [] μ 0 0 K := by
  refine G_goto (tgt := 193) d_X1_perform_148 rfl ?_
  exact h
theorem b_X1_perform_156 {X : cX} {d : Nat} {μ : mM} {K : Option Value → mM → Prop} {r1 : Nat} {l3 : Int32} {l4 : Int32} {l5 : Int32} (hc_link : Ct X (Rm (d + 2)) mX1_link [.ref r1, .int l3, .int l4] μ (fun r μ2 => G X (Rm (d + 3)) mX1_perform 163 [(5, .int l5)] (r.toList ++ []) μ2 0 0 K)) : G X (Rm (d + 3)) mX1_perform 156 [(1, .ref r1), (3, .int l3), (4, .int l4), (5, .int l5)] [] μ 0 0 K := by
  refine G_aload_n d_X1_perform_156 rfl 0 rfl ?_
  refine G_iload_n d_X1_perform_157 rfl 1 rfl ?_
  refine G_iload d_X1_perform_158 2 rfl ?_
  refine G_sub (L' := [(5, .int l5)]) [3] rfl ?_
  refine G_callS (M' := mX1_link) (R' := (Rm (d + 2))) (S := []) [.ref r1, .int l3, .int l4] ok_X1_link ml_X1_56 pn_X1_link (ru_Rm (by decide)) (Nat.le_of_ble_eq_true rfl) d_X1_perform_160 ?_
  exact hc_link
theorem b_X1_perform_163 {X : cX} {d : Nat} {μ : mM} {K : Option Value → mM → Prop} {l5 : Int32} (h : G X (Rm (d + 3)) mX1_perform 193 [(5, .int l5)] [] μ 0 0 K) : G X (Rm (d + 3)) mX1_perform 163 [(5, .int l5)] [] μ 0 0 K := by
  refine G_goto (tgt := 193) d_X1_perform_163 rfl ?_
  exact h
theorem b_X1_perform_176 {X : cX} {d : Nat} {μ : mM} {K : Option Value → mM → Prop} {r1 : Nat} {i3 : Nat} {l5 : Int32} {j0 : Nat} (hw5_r1 : WF5 μ r1) (hb : i3 < 3) (hi_j0 : iv μ r1 0 = nI j0) (hb_2 : j0 < 6) (hc_append : Ct X (Rm (d + 2)) mX5_append [.ref r1, .int 0] (wi μ (r1 + 3 + i3) j0 2) (fun r μ2 => G X (Rm (d + 3)) mX1_perform 193 [(5, .int l5)] (r.toList ++ []) μ2 0 0 K)) : G X (Rm (d + 3)) mX1_perform 176 [(1, .ref r1), (3, .int (nI i3)), (5, .int l5)] [] μ 0 0 K := by
  refine G_aload_n d_X1_perform_176 rfl 0 rfl ?_
  refine G_getR (r := r1 + 2) 5 2 (w5_kd hw5_r1) (w5_f2 hw5_r1) cok5 (by decide) rfl fl_X1_32 d_X1_perform_177 ?_
  refine G_iload_n d_X1_perform_180 rfl 1 rfl ?_
  refine G_aaldA (r := r1 + 3 + i3) i3 (w5_k2 hw5_r1) rfl hb (w5_r2 hw5_r1 i3 hb) d_X1_perform_181 ?_
  refine G_aload_n d_X1_perform_182 rfl 0 rfl ?_
  refine G_getI 5 0 (w5_kd hw5_r1) cok5 (by decide) rfl fl_X1_59 d_X1_perform_183 ?_
  refine G_iconst d_X1_perform_186 ic_2 ?_
  refine G_iast j0 (w5_q2 hw5_r1 i3 hb) hi_j0 hb_2 d_X1_perform_187 ?_
  refine G_aload_n d_X1_perform_188 rfl 0 rfl ?_
  refine G_iconst d_X1_perform_189 ic_0 ?_
  refine G_sub (L' := [(5, .int l5)]) [2] rfl ?_
  refine G_callV (M' := mX5_append) (R' := (Rm (d + 2))) (S := []) [.int 0] 5 (w5_kd hw5_r1) cok5 rfl ok_X5_append ml_X1_63 pn_X5_append (ru_Rm (by decide)) (Nat.le_of_ble_eq_true rfl) d_X1_perform_190 ?_
  exact hc_append
theorem b_X1_perform_193 {X : cX} {d : Nat} {μ : mM} {K : Option Value → mM → Prop} {l5 : Int32} (hK : K (some (.int l5)) μ) : G X (Rm (d + 3)) mX1_perform 193 [(5, .int l5)] [] μ 0 0 K := by
  refine G_iload d_X1_perform_193 0 rfl ?_
  exact G_iret rfl rfl rfl d_X1_perform_195 hK
theorem d_X5_sameness_0 : decode cX5_sameness 0 = .ok (.iload_n 1, 1) := by decide +kernel
theorem d_X5_sameness_1 : decode cX5_sameness 1 = .ok (.iload_n 2, 1) := by decide +kernel
theorem d_X5_sameness_2 : decode cX5_sameness 2 = .ok (.if_icmp .eq 5, 3) := by decide +kernel
theorem d_X5_sameness_5 : decode cX5_sameness 5 = .ok (.iconst 0, 1) := by decide +kernel
theorem d_X5_sameness_6 : decode cX5_sameness 6 = .ok (.ireturn, 1) := by decide +kernel
theorem d_X5_sameness_7 : decode cX5_sameness 7 = .ok (.aload_n 0, 1) := by decide +kernel
theorem d_X5_sameness_8 : decode cX5_sameness 8 = .ok (.getfield 9, 3) := by decide +kernel
theorem d_X5_sameness_11 : decode cX5_sameness 11 = .ok (.iload_n 1, 1) := by decide +kernel
theorem d_X5_sameness_12 : decode cX5_sameness 12 = .ok (.baload, 1) := by decide +kernel
theorem d_X5_sameness_13 : decode cX5_sameness 13 = .ok (.ifCond .eq 7, 3) := by decide +kernel
theorem d_X5_sameness_16 : decode cX5_sameness 16 = .ok (.iconst 1, 1) := by decide +kernel
theorem d_X5_sameness_17 : decode cX5_sameness 17 = .ok (.goto 4, 3) := by decide +kernel
theorem d_X5_sameness_20 : decode cX5_sameness 20 = .ok (.iconst 2, 1) := by decide +kernel
theorem d_X5_sameness_21 : decode cX5_sameness 21 = .ok (.ireturn, 1) := by decide +kernel
theorem b_X5_sameness_0 {X : cX} {d : Nat} {μ : mM} {K : Option Value → mM → Prop} {r0 : Nat} {i1 : Nat} {l2 : Int32} (hw5_r0 : WF5 μ r0) (hb : (nI i1) = l2 → i1 < 6) (hK : (nI i1) = l2 → (iv μ (r0 + 1) i1) = 0 → K (some (.int 2)) μ) (hK_2 : (nI i1) = l2 → ¬ (iv μ (r0 + 1) i1) = 0 → K (some (.int 1)) μ) (hK_3 : ¬ (nI i1) = l2 → K (some (.int 0)) μ) : G X (Rm d) mX5_sameness 0 [(0, .ref r0), (1, .int (nI i1)), (2, .int l2)] [] μ 0 0 K := by
  refine G_iload_n d_X5_sameness_0 rfl 1 rfl ?_
  refine G_iload_n d_X5_sameness_1 rfl 2 rfl ?_
  refine G_icmp_eq (tgt := 7) d_X5_sameness_2 rfl (fun c0 => ?_) (fun c0 => ?_)
  ·
    refine G_aload_n d_X5_sameness_7 rfl 0 rfl ?_
    refine G_getR (r := r0 + 1) 5 1 (w5_kd hw5_r0) (w5_f1 hw5_r0) cok5 (by decide) rfl fl_X5_9 d_X5_sameness_8 ?_
    refine G_iload_n d_X5_sameness_11 rfl 1 rfl ?_
    refine G_zald i1 (w5_k1 hw5_r0) rfl (hb c0) d_X5_sameness_12 ?_
    refine G_if_eq (tgt := 20) d_X5_sameness_13 rfl (fun c1 => ?_) (fun c1 => ?_)
    ·
      refine G_iconst d_X5_sameness_20 ic_2 ?_
      exact G_iret rfl rfl rfl d_X5_sameness_21 (hK c0 c1)
    ·
      refine G_iconst d_X5_sameness_16 ic_1 ?_
      refine G_goto (tgt := 21) d_X5_sameness_17 rfl ?_
      exact G_iret rfl rfl rfl d_X5_sameness_21 (hK_2 c0 c1)
  ·
    refine G_iconst d_X5_sameness_5 ic_0 ?_
    exact G_iret rfl rfl rfl d_X5_sameness_6 (hK_3 c0)
def e_X5_sameness (μ : mM) (r0 : Nat) (i1 : Nat) (l2 : Int32) : Int32 := (if (nI i1) = l2 then (if (iv μ (r0 + 1) i1) = 0 then 2 else 1) else 0)
theorem s_X5_sameness {X : cX} {d : Nat} {μ : mM} {K : Option Value → mM → Prop} {r0 : Nat} {i1 : Nat} {l2 : Int32} (hw5_r0 : WF5 μ r0) (hb : (nI i1) = l2 → i1 < 6) (hK : K (some (.int (e_X5_sameness μ r0 i1 l2))) μ) : Ct X (Rm d) mX5_sameness [.ref r0, .int (nI i1), .int l2] μ K := Ct_of rfl (Nat.le_of_ble_eq_true rfl) (G_sub [0, 1, 2] rfl (b_X5_sameness_0 hw5_r0 hb (fun c0 c1 => by unfold e_X5_sameness at hK; rw [if_pos c0, if_pos c1] at hK; exact hK) (fun c0 c1 => by unfold e_X5_sameness at hK; rw [if_pos c0, if_neg c1] at hK; exact hK) (fun c0 => by unfold e_X5_sameness at hK; rw [if_neg c0] at hK; exact hK)))
theorem d_X5_reaching_0 : decode cX5_reaching 0 = .ok (.iconst 0, 1) := by decide +kernel
theorem d_X5_reaching_1 : decode cX5_reaching 1 = .ok (.istore_n 3, 1) := by decide +kernel
theorem d_X5_reaching_2 : decode cX5_reaching 2 = .ok (.iconst 0, 1) := by decide +kernel
theorem d_X5_reaching_3 : decode cX5_reaching 3 = .ok (.istore 4, 2) := by decide +kernel
theorem d_X5_reaching_5 : decode cX5_reaching 5 = .ok (.iload 4, 2) := by decide +kernel
theorem d_X5_reaching_7 : decode cX5_reaching 7 = .ok (.aload_n 0, 1) := by decide +kernel
theorem d_X5_reaching_8 : decode cX5_reaching 8 = .ok (.getfield 29, 3) := by decide +kernel
theorem d_X5_reaching_11 : decode cX5_reaching 11 = .ok (.if_icmp .ge 49, 3) := by decide +kernel
theorem d_X5_reaching_14 : decode cX5_reaching 14 = .ok (.aload_n 0, 1) := by decide +kernel
theorem d_X5_reaching_15 : decode cX5_reaching 15 = .ok (.iload 4, 2) := by decide +kernel
theorem d_X5_reaching_17 : decode cX5_reaching 17 = .ok (.iload_n 2, 1) := by decide +kernel
theorem d_X5_reaching_18 : decode cX5_reaching 18 = .ok (.invokevirtual 79, 3) := by decide +kernel
theorem d_X5_reaching_21 : decode cX5_reaching 21 = .ok (.aload_n 0, 1) := by decide +kernel
theorem d_X5_reaching_22 : decode cX5_reaching 22 = .ok (.getfield 23, 3) := by decide +kernel
theorem d_X5_reaching_25 : decode cX5_reaching 25 = .ok (.iload 4, 2) := by decide +kernel
theorem d_X5_reaching_27 : decode cX5_reaching 27 = .ok (.aaload, 1) := by decide +kernel
theorem d_X5_reaching_28 : decode cX5_reaching 28 = .ok (.iload_n 2, 1) := by decide +kernel
theorem d_X5_reaching_29 : decode cX5_reaching 29 = .ok (.iaload, 1) := by decide +kernel
theorem d_X5_reaching_30 : decode cX5_reaching 30 = .ok (.invokestatic 52, 3) := by decide +kernel
theorem d_X5_reaching_33 : decode cX5_reaching 33 = .ok (.istore 5, 2) := by decide +kernel
theorem d_X5_reaching_35 : decode cX5_reaching 35 = .ok (.iload_n 3, 1) := by decide +kernel
theorem d_X5_reaching_36 : decode cX5_reaching 36 = .ok (.aload_n 0, 1) := by decide +kernel
theorem d_X5_reaching_37 : decode cX5_reaching 37 = .ok (.getfield 17, 3) := by decide +kernel
theorem d_X5_reaching_40 : decode cX5_reaching 40 = .ok (.iload_n 1, 1) := by decide +kernel
theorem d_X5_reaching_41 : decode cX5_reaching 41 = .ok (.aaload, 1) := by decide +kernel
theorem d_X5_reaching_42 : decode cX5_reaching 42 = .ok (.iload 4, 2) := by decide +kernel
theorem d_X5_reaching_44 : decode cX5_reaching 44 = .ok (.iaload, 1) := by decide +kernel
theorem d_X5_reaching_45 : decode cX5_reaching 45 = .ok (.iload 5, 2) := by decide +kernel
theorem d_X5_reaching_47 : decode cX5_reaching 47 = .ok (.invokestatic 73, 3) := by decide +kernel
theorem d_X5_reaching_50 : decode cX5_reaching 50 = .ok (.invokestatic 52, 3) := by decide +kernel
theorem d_X5_reaching_53 : decode cX5_reaching 53 = .ok (.istore_n 3, 1) := by decide +kernel
theorem d_X5_reaching_54 : decode cX5_reaching 54 = .ok (.iinc 4 1, 3) := by decide +kernel
theorem d_X5_reaching_57 : decode cX5_reaching 57 = .ok (.goto (-52), 3) := by decide +kernel
theorem d_X5_reaching_60 : decode cX5_reaching 60 = .ok (.iload_n 3, 1) := by decide +kernel
theorem d_X5_reaching_61 : decode cX5_reaching 61 = .ok (.ireturn, 1) := by decide +kernel
theorem b_X5_reaching_0 {X : cX} {d : Nat} {μ : mM} {K : Option Value → mM → Prop} {r0 : Nat} {l1 : Int32} {l2 : Int32} (h : G X (Rm (d + 1)) mX5_reaching 5 [(0, .ref r0), (1, .int l1), (2, .int l2), (3, .int 0), (4, .int (nI 0))] [] μ 0 0 K) : G X (Rm (d + 1)) mX5_reaching 0 [(0, .ref r0), (1, .int l1), (2, .int l2)] [] μ 0 0 K := by
  refine G_iconst d_X5_reaching_0 ic_0 ?_
  refine G_istore_n (L' := [(3, .int 0), (0, .ref r0), (1, .int l1), (2, .int l2)]) d_X5_reaching_1 rfl (by decide) rfl ?_
  refine G_iconst d_X5_reaching_2 ic_0 ?_
  refine G_istore (L' := [(4, .int (nI 0)), (3, .int 0), (0, .ref r0), (1, .int l1), (2, .int l2)]) d_X5_reaching_3 (by decide) rfl ?_
  refine G_sub (L' := [(0, .ref r0), (1, .int l1), (2, .int l2), (3, .int 0), (4, .int (nI 0))]) [2, 3, 4, 1, 0] rfl ?_
  exact h
theorem b_X5_reaching_5 {X : cX} {d : Nat} {μ : mM} {K : Option Value → mM → Prop} {r0 : Nat} {i1 : Nat} {i2 : Nat} {l3 : Int32} {i4 : Nat} (hw5_r0 : WF5 μ r0) (hK : (iv μ r0 0) ≤ (nI i4) → K (some (.int l3)) μ) (hs : ¬ (iv μ r0 0) ≤ (nI i4) → ((nI i4) = (nI i2) → i4 < 6)) (hb : ¬ (iv μ r0 0) ≤ (nI i4) → i4 < 6) (hb_2 : ¬ (iv μ r0 0) ≤ (nI i4) → i2 < 6) (hb_3 : ¬ (iv μ r0 0) ≤ (nI i4) → i1 < 3) (h : ¬ (iv μ r0 0) ≤ (nI i4) → G X (Rm (d + 1)) mX5_reaching 5 [(0, .ref r0), (1, .int (nI i1)), (2, .int (nI i2)), (3, .int (if l3 < (if (if e_X5_sameness μ r0 i4 (nI i2) < iv μ (r0 + 14 + i4) i2 then iv μ (r0 + 14 + i4) i2 else e_X5_sameness μ r0 i4 (nI i2)) < iv μ (r0 + 3 + i1) i4 then (if e_X5_sameness μ r0 i4 (nI i2) < iv μ (r0 + 14 + i4) i2 then iv μ (r0 + 14 + i4) i2 else e_X5_sameness μ r0 i4 (nI i2)) else iv μ (r0 + 3 + i1) i4) then (if (if e_X5_sameness μ r0 i4 (nI i2) < iv μ (r0 + 14 + i4) i2 then iv μ (r0 + 14 + i4) i2 else e_X5_sameness μ r0 i4 (nI i2)) < iv μ (r0 + 3 + i1) i4 then (if e_X5_sameness μ r0 i4 (nI i2) < iv μ (r0 + 14 + i4) i2 then iv μ (r0 + 14 + i4) i2 else e_X5_sameness μ r0 i4 (nI i2)) else iv μ (r0 + 3 + i1) i4) else l3)), (4, .int (nI (i4 + 1)))] [] μ 0 0 K) : G X (Rm (d + 1)) mX5_reaching 5 [(0, .ref r0), (1, .int (nI i1)), (2, .int (nI i2)), (3, .int l3), (4, .int (nI i4))] [] μ 0 0 K := by
  refine G_iload d_X5_reaching_5 4 rfl ?_
  refine G_aload_n d_X5_reaching_7 rfl 0 rfl ?_
  refine G_getI 5 0 (w5_kd hw5_r0) cok5 (by decide) rfl fl_X5_29 d_X5_reaching_8 ?_
  refine G_icmp_ge (tgt := 60) d_X5_reaching_11 rfl (fun c0 => ?_) (fun c0 => ?_)
  ·
    refine G_iload_n d_X5_reaching_60 rfl 3 rfl ?_
    exact G_iret rfl rfl rfl d_X5_reaching_61 (hK c0)
  ·
    refine G_aload_n d_X5_reaching_14 rfl 0 rfl ?_
    refine G_iload d_X5_reaching_15 4 rfl ?_
    refine G_iload_n d_X5_reaching_17 rfl 2 rfl ?_
    refine G_callV (M' := mX5_sameness) (R' := (Rm d)) (S := []) [.int (nI i4), .int (nI i2)] 5 (w5_kd hw5_r0) cok5 rfl ok_X5_sameness ml_X5_79 pn_X5_sameness (ru_Rm (by decide)) (Nat.le_of_ble_eq_true rfl) d_X5_reaching_18 (s_X5_sameness (μ := μ) (i1 := i4) hw5_r0 (hs c0) ?_)
    show G X (Rm (d + 1)) mX5_reaching 21 [(0, .ref r0), (1, .int (nI i1)), (2, .int (nI i2)), (3, .int l3), (4, .int (nI i4))] [.int (e_X5_sameness μ r0 i4 (nI i2))] μ 0 0 K
    refine G_aload_n d_X5_reaching_21 rfl 0 rfl ?_
    refine G_getR (r := r0 + 13) 5 4 (w5_kd hw5_r0) (w5_f4 hw5_r0) cok5 (by decide) rfl fl_X5_23 d_X5_reaching_22 ?_
    refine G_iload d_X5_reaching_25 4 rfl ?_
    refine G_aaldA (r := r0 + 14 + i4) i4 (w5_k4 hw5_r0) rfl (hb c0) (w5_r4 hw5_r0 i4 (hb c0)) d_X5_reaching_27 ?_
    refine G_iload_n d_X5_reaching_28 rfl 2 rfl ?_
    refine G_iald i2 (w5_q4 hw5_r0 i4 (hb c0)) rfl (hb_2 c0) d_X5_reaching_29 ?_
    refine G_max ml_X5_52 rb_Rm (Nat.le_of_ble_eq_true rfl) d_X5_reaching_30 ?_
    refine G_istore (L' := [(5, .int (if e_X5_sameness μ r0 i4 (nI i2) < iv μ (r0 + 14 + i4) i2 then iv μ (r0 + 14 + i4) i2 else e_X5_sameness μ r0 i4 (nI i2))), (0, .ref r0), (1, .int (nI i1)), (2, .int (nI i2)), (3, .int l3), (4, .int (nI i4))]) d_X5_reaching_33 (by decide) rfl ?_
    refine G_iload_n d_X5_reaching_35 rfl 4 rfl ?_
    refine G_aload_n d_X5_reaching_36 rfl 1 rfl ?_
    refine G_getR (r := r0 + 2) 5 2 (w5_kd hw5_r0) (w5_f2 hw5_r0) cok5 (by decide) rfl fl_X5_17 d_X5_reaching_37 ?_
    refine G_iload_n d_X5_reaching_40 rfl 2 rfl ?_
    refine G_aaldA (r := r0 + 3 + i1) i1 (w5_k2 hw5_r0) rfl (hb_3 c0) (w5_r2 hw5_r0 i1 (hb_3 c0)) d_X5_reaching_41 ?_
    refine G_iload d_X5_reaching_42 5 rfl ?_
    refine G_iald i4 (w5_q2 hw5_r0 i1 (hb_3 c0)) rfl (hb c0) d_X5_reaching_44 ?_
    refine G_iload d_X5_reaching_45 0 rfl ?_
    refine G_min ml_X5_73 rb_Rm (Nat.le_of_ble_eq_true rfl) d_X5_reaching_47 ?_
    refine G_max ml_X5_52 rb_Rm (Nat.le_of_ble_eq_true rfl) d_X5_reaching_50 ?_
    refine G_istore_n (L' := [(3, .int (if l3 < (if (if e_X5_sameness μ r0 i4 (nI i2) < iv μ (r0 + 14 + i4) i2 then iv μ (r0 + 14 + i4) i2 else e_X5_sameness μ r0 i4 (nI i2)) < iv μ (r0 + 3 + i1) i4 then (if e_X5_sameness μ r0 i4 (nI i2) < iv μ (r0 + 14 + i4) i2 then iv μ (r0 + 14 + i4) i2 else e_X5_sameness μ r0 i4 (nI i2)) else iv μ (r0 + 3 + i1) i4) then (if (if e_X5_sameness μ r0 i4 (nI i2) < iv μ (r0 + 14 + i4) i2 then iv μ (r0 + 14 + i4) i2 else e_X5_sameness μ r0 i4 (nI i2)) < iv μ (r0 + 3 + i1) i4 then (if e_X5_sameness μ r0 i4 (nI i2) < iv μ (r0 + 14 + i4) i2 then iv μ (r0 + 14 + i4) i2 else e_X5_sameness μ r0 i4 (nI i2)) else iv μ (r0 + 3 + i1) i4) else l3)), (5, .int (if e_X5_sameness μ r0 i4 (nI i2) < iv μ (r0 + 14 + i4) i2 then iv μ (r0 + 14 + i4) i2 else e_X5_sameness μ r0 i4 (nI i2))), (0, .ref r0), (1, .int (nI i1)), (2, .int (nI i2)), (4, .int (nI i4))]) d_X5_reaching_53 rfl (by decide) rfl ?_
    refine G_iinc (L' := [(4, .int (nI (i4 + 1))), (3, .int (if l3 < (if (if e_X5_sameness μ r0 i4 (nI i2) < iv μ (r0 + 14 + i4) i2 then iv μ (r0 + 14 + i4) i2 else e_X5_sameness μ r0 i4 (nI i2)) < iv μ (r0 + 3 + i1) i4 then (if e_X5_sameness μ r0 i4 (nI i2) < iv μ (r0 + 14 + i4) i2 then iv μ (r0 + 14 + i4) i2 else e_X5_sameness μ r0 i4 (nI i2)) else iv μ (r0 + 3 + i1) i4) then (if (if e_X5_sameness μ r0 i4 (nI i2) < iv μ (r0 + 14 + i4) i2 then iv μ (r0 + 14 + i4) i2 else e_X5_sameness μ r0 i4 (nI i2)) < iv μ (r0 + 3 + i1) i4 then (if e_X5_sameness μ r0 i4 (nI i2) < iv μ (r0 + 14 + i4) i2 then iv μ (r0 + 14 + i4) i2 else e_X5_sameness μ r0 i4 (nI i2)) else iv μ (r0 + 3 + i1) i4) else l3)), (5, .int (if e_X5_sameness μ r0 i4 (nI i2) < iv μ (r0 + 14 + i4) i2 then iv μ (r0 + 14 + i4) i2 else e_X5_sameness μ r0 i4 (nI i2))), (0, .ref r0), (1, .int (nI i1)), (2, .int (nI i2))]) d_X5_reaching_54 5 rfl (inc1 i4) (by decide) rfl ?_
    refine G_goto (tgt := 5) d_X5_reaching_57 rfl ?_
    refine G_sub (L' := [(0, .ref r0), (1, .int (nI i1)), (2, .int (nI i2)), (3, .int (if l3 < (if (if e_X5_sameness μ r0 i4 (nI i2) < iv μ (r0 + 14 + i4) i2 then iv μ (r0 + 14 + i4) i2 else e_X5_sameness μ r0 i4 (nI i2)) < iv μ (r0 + 3 + i1) i4 then (if e_X5_sameness μ r0 i4 (nI i2) < iv μ (r0 + 14 + i4) i2 then iv μ (r0 + 14 + i4) i2 else e_X5_sameness μ r0 i4 (nI i2)) else iv μ (r0 + 3 + i1) i4) then (if (if e_X5_sameness μ r0 i4 (nI i2) < iv μ (r0 + 14 + i4) i2 then iv μ (r0 + 14 + i4) i2 else e_X5_sameness μ r0 i4 (nI i2)) < iv μ (r0 + 3 + i1) i4 then (if e_X5_sameness μ r0 i4 (nI i2) < iv μ (r0 + 14 + i4) i2 then iv μ (r0 + 14 + i4) i2 else e_X5_sameness μ r0 i4 (nI i2)) else iv μ (r0 + 3 + i1) i4) else l3)), (4, .int (nI (i4 + 1)))]) [3, 4, 5, 1, 0] rfl ?_
    exact (h c0)
theorem d_X5_trace_0 : decode cX5_trace 0 = .ok (.iconst 0, 1) := by decide +kernel
theorem d_X5_trace_1 : decode cX5_trace 1 = .ok (.istore_n 1, 1) := by decide +kernel
theorem d_X5_trace_2 : decode cX5_trace 2 = .ok (.iload_n 1, 1) := by decide +kernel
theorem d_X5_trace_3 : decode cX5_trace 3 = .ok (.aload_n 0, 1) := by decide +kernel
theorem d_X5_trace_4 : decode cX5_trace 4 = .ok (.getfield 29, 3) := by decide +kernel
theorem d_X5_trace_7 : decode cX5_trace 7 = .ok (.if_icmp .ge 28, 3) := by decide +kernel
theorem d_X5_trace_10 : decode cX5_trace 10 = .ok (.aload_n 0, 1) := by decide +kernel
theorem d_X5_trace_11 : decode cX5_trace 11 = .ok (.getfield 20, 3) := by decide +kernel
theorem d_X5_trace_14 : decode cX5_trace 14 = .ok (.iload_n 1, 1) := by decide +kernel
theorem d_X5_trace_15 : decode cX5_trace 15 = .ok (.aaload, 1) := by decide +kernel
theorem d_X5_trace_16 : decode cX5_trace 16 = .ok (.iconst 0, 1) := by decide +kernel
theorem d_X5_trace_17 : decode cX5_trace 17 = .ok (.aload_n 0, 1) := by decide +kernel
theorem d_X5_trace_18 : decode cX5_trace 18 = .ok (.getfield 23, 3) := by decide +kernel
theorem d_X5_trace_21 : decode cX5_trace 21 = .ok (.iload_n 1, 1) := by decide +kernel
theorem d_X5_trace_22 : decode cX5_trace 22 = .ok (.aaload, 1) := by decide +kernel
theorem d_X5_trace_23 : decode cX5_trace 23 = .ok (.iconst 0, 1) := by decide +kernel
theorem d_X5_trace_24 : decode cX5_trace 24 = .ok (.bipush 6, 2) := by decide +kernel
theorem d_X5_trace_26 : decode cX5_trace 26 = .ok (.invokestatic 39, 3) := by decide +kernel
theorem d_X5_trace_29 : decode cX5_trace 29 = .ok (.iinc 1 1, 3) := by decide +kernel
theorem d_X5_trace_32 : decode cX5_trace 32 = .ok (.goto (-30), 3) := by decide +kernel
theorem d_X5_trace_35 : decode cX5_trace 35 = .ok (.iconst 0, 1) := by decide +kernel
theorem d_X5_trace_36 : decode cX5_trace 36 = .ok (.istore_n 1, 1) := by decide +kernel
theorem d_X5_trace_37 : decode cX5_trace 37 = .ok (.iload_n 1, 1) := by decide +kernel
theorem d_X5_trace_38 : decode cX5_trace 38 = .ok (.aload_n 0, 1) := by decide +kernel
theorem d_X5_trace_39 : decode cX5_trace 39 = .ok (.getfield 29, 3) := by decide +kernel
theorem d_X5_trace_42 : decode cX5_trace 42 = .ok (.if_icmp .ge 79, 3) := by decide +kernel
theorem d_X5_trace_45 : decode cX5_trace 45 = .ok (.iconst 0, 1) := by decide +kernel
theorem d_X5_trace_46 : decode cX5_trace 46 = .ok (.istore_n 2, 1) := by decide +kernel
theorem d_X5_trace_47 : decode cX5_trace 47 = .ok (.iload_n 2, 1) := by decide +kernel
theorem d_X5_trace_48 : decode cX5_trace 48 = .ok (.aload_n 0, 1) := by decide +kernel
theorem d_X5_trace_49 : decode cX5_trace 49 = .ok (.getfield 29, 3) := by decide +kernel
theorem d_X5_trace_52 : decode cX5_trace 52 = .ok (.if_icmp .ge 63, 3) := by decide +kernel
theorem d_X5_trace_55 : decode cX5_trace 55 = .ok (.iconst 0, 1) := by decide +kernel
theorem d_X5_trace_56 : decode cX5_trace 56 = .ok (.istore_n 3, 1) := by decide +kernel
theorem d_X5_trace_57 : decode cX5_trace 57 = .ok (.iload_n 3, 1) := by decide +kernel
theorem d_X5_trace_58 : decode cX5_trace 58 = .ok (.aload_n 0, 1) := by decide +kernel
theorem d_X5_trace_59 : decode cX5_trace 59 = .ok (.getfield 29, 3) := by decide +kernel
theorem d_X5_trace_62 : decode cX5_trace 62 = .ok (.if_icmp .ge 47, 3) := by decide +kernel
theorem d_X5_trace_65 : decode cX5_trace 65 = .ok (.aload_n 0, 1) := by decide +kernel
theorem d_X5_trace_66 : decode cX5_trace 66 = .ok (.getfield 23, 3) := by decide +kernel
theorem d_X5_trace_69 : decode cX5_trace 69 = .ok (.iload_n 2, 1) := by decide +kernel
theorem d_X5_trace_70 : decode cX5_trace 70 = .ok (.aaload, 1) := by decide +kernel
theorem d_X5_trace_71 : decode cX5_trace 71 = .ok (.iload_n 3, 1) := by decide +kernel
theorem d_X5_trace_72 : decode cX5_trace 72 = .ok (.aload_n 0, 1) := by decide +kernel
theorem d_X5_trace_73 : decode cX5_trace 73 = .ok (.getfield 23, 3) := by decide +kernel
theorem d_X5_trace_76 : decode cX5_trace 76 = .ok (.iload_n 2, 1) := by decide +kernel
theorem d_X5_trace_77 : decode cX5_trace 77 = .ok (.aaload, 1) := by decide +kernel
theorem d_X5_trace_78 : decode cX5_trace 78 = .ok (.iload_n 3, 1) := by decide +kernel
theorem d_X5_trace_79 : decode cX5_trace 79 = .ok (.iaload, 1) := by decide +kernel
theorem d_X5_trace_80 : decode cX5_trace 80 = .ok (.aload_n 0, 1) := by decide +kernel
theorem d_X5_trace_81 : decode cX5_trace 81 = .ok (.getfield 23, 3) := by decide +kernel
theorem d_X5_trace_84 : decode cX5_trace 84 = .ok (.iload_n 2, 1) := by decide +kernel
theorem d_X5_trace_85 : decode cX5_trace 85 = .ok (.aaload, 1) := by decide +kernel
theorem d_X5_trace_86 : decode cX5_trace 86 = .ok (.iload_n 1, 1) := by decide +kernel
theorem d_X5_trace_87 : decode cX5_trace 87 = .ok (.iaload, 1) := by decide +kernel
theorem d_X5_trace_88 : decode cX5_trace 88 = .ok (.aload_n 0, 1) := by decide +kernel
theorem d_X5_trace_89 : decode cX5_trace 89 = .ok (.getfield 23, 3) := by decide +kernel
theorem d_X5_trace_92 : decode cX5_trace 92 = .ok (.iload_n 1, 1) := by decide +kernel
theorem d_X5_trace_93 : decode cX5_trace 93 = .ok (.aaload, 1) := by decide +kernel
theorem d_X5_trace_94 : decode cX5_trace 94 = .ok (.iload_n 3, 1) := by decide +kernel
theorem d_X5_trace_95 : decode cX5_trace 95 = .ok (.iaload, 1) := by decide +kernel
theorem d_X5_trace_96 : decode cX5_trace 96 = .ok (.invokestatic 73, 3) := by decide +kernel
theorem d_X5_trace_99 : decode cX5_trace 99 = .ok (.invokestatic 52, 3) := by decide +kernel
theorem d_X5_trace_102 : decode cX5_trace 102 = .ok (.iastore, 1) := by decide +kernel
theorem d_X5_trace_103 : decode cX5_trace 103 = .ok (.iinc 3 1, 3) := by decide +kernel
theorem d_X5_trace_106 : decode cX5_trace 106 = .ok (.goto (-49), 3) := by decide +kernel
theorem d_X5_trace_109 : decode cX5_trace 109 = .ok (.iinc 2 1, 3) := by decide +kernel
theorem d_X5_trace_112 : decode cX5_trace 112 = .ok (.goto (-65), 3) := by decide +kernel
theorem d_X5_trace_115 : decode cX5_trace 115 = .ok (.iinc 1 1, 3) := by decide +kernel
theorem d_X5_trace_118 : decode cX5_trace 118 = .ok (.goto (-81), 3) := by decide +kernel
theorem d_X5_trace_121 : decode cX5_trace 121 = .ok (.iconst 0, 1) := by decide +kernel
theorem d_X5_trace_122 : decode cX5_trace 122 = .ok (.istore_n 1, 1) := by decide +kernel
theorem d_X5_trace_123 : decode cX5_trace 123 = .ok (.iload_n 1, 1) := by decide +kernel
theorem d_X5_trace_124 : decode cX5_trace 124 = .ok (.iconst 3, 1) := by decide +kernel
theorem d_X5_trace_125 : decode cX5_trace 125 = .ok (.if_icmp .ge 39, 3) := by decide +kernel
theorem d_X5_trace_128 : decode cX5_trace 128 = .ok (.iconst 0, 1) := by decide +kernel
theorem d_X5_trace_129 : decode cX5_trace 129 = .ok (.istore_n 2, 1) := by decide +kernel
theorem d_X5_trace_130 : decode cX5_trace 130 = .ok (.iload_n 2, 1) := by decide +kernel
theorem d_X5_trace_131 : decode cX5_trace 131 = .ok (.aload_n 0, 1) := by decide +kernel
theorem d_X5_trace_132 : decode cX5_trace 132 = .ok (.getfield 29, 3) := by decide +kernel
theorem d_X5_trace_135 : decode cX5_trace 135 = .ok (.if_icmp .ge 23, 3) := by decide +kernel
theorem d_X5_trace_138 : decode cX5_trace 138 = .ok (.aload_n 0, 1) := by decide +kernel
theorem d_X5_trace_139 : decode cX5_trace 139 = .ok (.getfield 26, 3) := by decide +kernel
theorem d_X5_trace_142 : decode cX5_trace 142 = .ok (.iload_n 1, 1) := by decide +kernel
theorem d_X5_trace_143 : decode cX5_trace 143 = .ok (.aaload, 1) := by decide +kernel
theorem d_X5_trace_144 : decode cX5_trace 144 = .ok (.iload_n 2, 1) := by decide +kernel
theorem d_X5_trace_145 : decode cX5_trace 145 = .ok (.aload_n 0, 1) := by decide +kernel
theorem d_X5_trace_146 : decode cX5_trace 146 = .ok (.iload_n 1, 1) := by decide +kernel
theorem d_X5_trace_147 : decode cX5_trace 147 = .ok (.iload_n 2, 1) := by decide +kernel
theorem d_X5_trace_148 : decode cX5_trace 148 = .ok (.invokevirtual 76, 3) := by decide +kernel
theorem d_X5_trace_151 : decode cX5_trace 151 = .ok (.iastore, 1) := by decide +kernel
theorem d_X5_trace_152 : decode cX5_trace 152 = .ok (.iinc 2 1, 3) := by decide +kernel
theorem d_X5_trace_155 : decode cX5_trace 155 = .ok (.goto (-25), 3) := by decide +kernel
theorem d_X5_trace_158 : decode cX5_trace 158 = .ok (.iinc 1 1, 3) := by decide +kernel
theorem d_X5_trace_161 : decode cX5_trace 161 = .ok (.goto (-38), 3) := by decide +kernel
theorem d_X5_trace_164 : decode cX5_trace 164 = .ok (.return_, 1) := by decide +kernel
theorem b_X5_trace_0 {X : cX} {d : Nat} {μ : mM} {K : Option Value → mM → Prop} {r0 : Nat} (h : G X (Rm (d + 2)) mX5_trace 2 [(0, .ref r0), (1, .int (nI 0))] [] μ 0 0 K) : G X (Rm (d + 2)) mX5_trace 0 [(0, .ref r0)] [] μ 0 0 K := by
  refine G_iconst d_X5_trace_0 ic_0 ?_
  refine G_istore_n (L' := [(1, .int (nI 0)), (0, .ref r0)]) d_X5_trace_1 rfl (by decide) rfl ?_
  refine G_sub (L' := [(0, .ref r0), (1, .int (nI 0))]) [1, 0] rfl ?_
  exact h
theorem b_X5_trace_2 {X : cX} {d : Nat} {μ : mM} {K : Option Value → mM → Prop} {r0 : Nat} {i1 : Nat} (hw5_r0 : WF5 μ r0) (h : (iv μ r0 0) ≤ (nI i1) → G X (Rm (d + 2)) mX5_trace 37 [(0, .ref r0), (1, .int (nI 0))] [] μ 0 0 K) (hb : ¬ (iv μ r0 0) ≤ (nI i1) → i1 < 6) (h_2 : ¬ (iv μ r0 0) ≤ (nI i1) → G X (Rm (d + 2)) mX5_trace 2 [(0, .ref r0), (1, .int (nI (i1 + 1)))] [] (cpI μ (r0 + 7 + i1) 0 (r0 + 14 + i1) 0 6) 0 0 K) : G X (Rm (d + 2)) mX5_trace 2 [(0, .ref r0), (1, .int (nI i1))] [] μ 0 0 K := by
  refine G_iload_n d_X5_trace_2 rfl 1 rfl ?_
  refine G_aload_n d_X5_trace_3 rfl 0 rfl ?_
  refine G_getI 5 0 (w5_kd hw5_r0) cok5 (by decide) rfl fl_X5_29 d_X5_trace_4 ?_
  refine G_icmp_ge (tgt := 35) d_X5_trace_7 rfl (fun c0 => ?_) (fun c0 => ?_)
  ·
    refine G_iconst d_X5_trace_35 ic_0 ?_
    refine G_istore_n (L' := [(1, .int (nI 0)), (0, .ref r0)]) d_X5_trace_36 rfl (by decide) rfl ?_
    refine G_sub (L' := [(0, .ref r0), (1, .int (nI 0))]) [1, 0] rfl ?_
    exact (h c0)
  ·
    refine G_aload_n d_X5_trace_10 rfl 0 rfl ?_
    refine G_getR (r := r0 + 6) 5 3 (w5_kd hw5_r0) (w5_f3 hw5_r0) cok5 (by decide) rfl fl_X5_20 d_X5_trace_11 ?_
    refine G_iload_n d_X5_trace_14 rfl 1 rfl ?_
    refine G_aaldA (r := r0 + 7 + i1) i1 (w5_k3 hw5_r0) rfl (hb c0) (w5_r3 hw5_r0 i1 (hb c0)) d_X5_trace_15 ?_
    refine G_iconst d_X5_trace_16 ic_0 ?_
    refine G_aload_n d_X5_trace_17 rfl 0 rfl ?_
    refine G_getR (r := r0 + 13) 5 4 (w5_kd hw5_r0) (w5_f4 hw5_r0) cok5 (by decide) rfl fl_X5_23 d_X5_trace_18 ?_
    refine G_iload_n d_X5_trace_21 rfl 1 rfl ?_
    refine G_aaldA (r := r0 + 14 + i1) i1 (w5_k4 hw5_r0) rfl (hb c0) (w5_r4 hw5_r0 i1 (hb c0)) d_X5_trace_22 ?_
    refine G_iconst d_X5_trace_23 ic_0 ?_
    refine G_bipush d_X5_trace_24 bp_6 ?_
    refine G_copy (sp := 0) (dp := 0) (n := 6) (w5_q3 hw5_r0 i1 (hb c0)) (w5_q4 hw5_r0 i1 (hb c0)) rfl rfl rfl (by decide) (by decide) ml_X5_39 rb_Rm (Nat.le_of_ble_eq_true rfl) d_X5_trace_26 ?_
    refine G_iinc (L' := [(1, .int (nI (i1 + 1))), (0, .ref r0)]) d_X5_trace_29 1 rfl (inc1 i1) (by decide) rfl ?_
    refine G_goto (tgt := 2) d_X5_trace_32 rfl ?_
    refine G_sub (L' := [(0, .ref r0), (1, .int (nI (i1 + 1)))]) [1, 0] rfl ?_
    exact (h_2 c0)
theorem b_X5_trace_37 {X : cX} {d : Nat} {μ : mM} {K : Option Value → mM → Prop} {r0 : Nat} {l1 : Int32} (hw5_r0 : WF5 μ r0) (h : (iv μ r0 0) ≤ l1 → G X (Rm (d + 2)) mX5_trace 123 [(0, .ref r0), (1, .int (nI 0))] [] μ 0 0 K) (h_2 : ¬ (iv μ r0 0) ≤ l1 → G X (Rm (d + 2)) mX5_trace 47 [(0, .ref r0), (1, .int l1), (2, .int (nI 0))] [] μ 0 0 K) : G X (Rm (d + 2)) mX5_trace 37 [(0, .ref r0), (1, .int l1)] [] μ 0 0 K := by
  refine G_iload_n d_X5_trace_37 rfl 1 rfl ?_
  refine G_aload_n d_X5_trace_38 rfl 0 rfl ?_
  refine G_getI 5 0 (w5_kd hw5_r0) cok5 (by decide) rfl fl_X5_29 d_X5_trace_39 ?_
  refine G_icmp_ge (tgt := 121) d_X5_trace_42 rfl (fun c0 => ?_) (fun c0 => ?_)
  ·
    refine G_iconst d_X5_trace_121 ic_0 ?_
    refine G_istore_n (L' := [(1, .int (nI 0)), (0, .ref r0)]) d_X5_trace_122 rfl (by decide) rfl ?_
    refine G_sub (L' := [(0, .ref r0), (1, .int (nI 0))]) [1, 0] rfl ?_
    exact (h c0)
  ·
    refine G_iconst d_X5_trace_45 ic_0 ?_
    refine G_istore_n (L' := [(2, .int (nI 0)), (0, .ref r0), (1, .int l1)]) d_X5_trace_46 rfl (by decide) rfl ?_
    refine G_sub (L' := [(0, .ref r0), (1, .int l1), (2, .int (nI 0))]) [1, 2, 0] rfl ?_
    exact (h_2 c0)
theorem b_X5_trace_47 {X : cX} {d : Nat} {μ : mM} {K : Option Value → mM → Prop} {r0 : Nat} {i1 : Nat} {l2 : Int32} (hw5_r0 : WF5 μ r0) (h : (iv μ r0 0) ≤ l2 → G X (Rm (d + 2)) mX5_trace 37 [(0, .ref r0), (1, .int (nI (i1 + 1)))] [] μ 0 0 K) (h_2 : ¬ (iv μ r0 0) ≤ l2 → G X (Rm (d + 2)) mX5_trace 57 [(0, .ref r0), (1, .int (nI i1)), (2, .int l2), (3, .int (nI 0))] [] μ 0 0 K) : G X (Rm (d + 2)) mX5_trace 47 [(0, .ref r0), (1, .int (nI i1)), (2, .int l2)] [] μ 0 0 K := by
  refine G_iload_n d_X5_trace_47 rfl 2 rfl ?_
  refine G_aload_n d_X5_trace_48 rfl 0 rfl ?_
  refine G_getI 5 0 (w5_kd hw5_r0) cok5 (by decide) rfl fl_X5_29 d_X5_trace_49 ?_
  refine G_icmp_ge (tgt := 115) d_X5_trace_52 rfl (fun c0 => ?_) (fun c0 => ?_)
  ·
    refine G_iinc (L' := [(1, .int (nI (i1 + 1))), (0, .ref r0), (2, .int l2)]) d_X5_trace_115 1 rfl (inc1 i1) (by decide) rfl ?_
    refine G_goto (tgt := 37) d_X5_trace_118 rfl ?_
    refine G_sub (L' := [(0, .ref r0), (1, .int (nI (i1 + 1)))]) [1, 0] rfl ?_
    exact (h c0)
  ·
    refine G_iconst d_X5_trace_55 ic_0 ?_
    refine G_istore_n (L' := [(3, .int (nI 0)), (0, .ref r0), (1, .int (nI i1)), (2, .int l2)]) d_X5_trace_56 rfl (by decide) rfl ?_
    refine G_sub (L' := [(0, .ref r0), (1, .int (nI i1)), (2, .int l2), (3, .int (nI 0))]) [1, 2, 3, 0] rfl ?_
    exact (h_2 c0)
theorem b_X5_trace_57 {X : cX} {d : Nat} {μ : mM} {K : Option Value → mM → Prop} {r0 : Nat} {i1 : Nat} {i2 : Nat} {i3 : Nat} (hw5_r0 : WF5 μ r0) (h : (iv μ r0 0) ≤ (nI i3) → G X (Rm (d + 2)) mX5_trace 47 [(0, .ref r0), (1, .int (nI i1)), (2, .int (nI (i2 + 1)))] [] μ 0 0 K) (hb : ¬ (iv μ r0 0) ≤ (nI i3) → i2 < 6) (hb_2 : ¬ (iv μ r0 0) ≤ (nI i3) → i3 < 6) (hb_3 : ¬ (iv μ r0 0) ≤ (nI i3) → i1 < 6) (h_2 : ¬ (iv μ r0 0) ≤ (nI i3) → G X (Rm (d + 2)) mX5_trace 57 [(0, .ref r0), (1, .int (nI i1)), (2, .int (nI i2)), (3, .int (nI (i3 + 1)))] [] (wi μ (r0 + 14 + i2) i3 (if iv μ (r0 + 14 + i2) i3 < (if iv μ (r0 + 14 + i1) i3 < iv μ (r0 + 14 + i2) i1 then iv μ (r0 + 14 + i1) i3 else iv μ (r0 + 14 + i2) i1) then (if iv μ (r0 + 14 + i1) i3 < iv μ (r0 + 14 + i2) i1 then iv μ (r0 + 14 + i1) i3 else iv μ (r0 + 14 + i2) i1) else iv μ (r0 + 14 + i2) i3)) 0 0 K) : G X (Rm (d + 2)) mX5_trace 57 [(0, .ref r0), (1, .int (nI i1)), (2, .int (nI i2)), (3, .int (nI i3))] [] μ 0 0 K := by
  refine G_iload_n d_X5_trace_57 rfl 3 rfl ?_
  refine G_aload_n d_X5_trace_58 rfl 0 rfl ?_
  refine G_getI 5 0 (w5_kd hw5_r0) cok5 (by decide) rfl fl_X5_29 d_X5_trace_59 ?_
  refine G_icmp_ge (tgt := 109) d_X5_trace_62 rfl (fun c0 => ?_) (fun c0 => ?_)
  ·
    refine G_iinc (L' := [(2, .int (nI (i2 + 1))), (0, .ref r0), (1, .int (nI i1)), (3, .int (nI i3))]) d_X5_trace_109 2 rfl (inc1 i2) (by decide) rfl ?_
    refine G_goto (tgt := 47) d_X5_trace_112 rfl ?_
    refine G_sub (L' := [(0, .ref r0), (1, .int (nI i1)), (2, .int (nI (i2 + 1)))]) [1, 2, 0] rfl ?_
    exact (h c0)
  ·
    refine G_aload_n d_X5_trace_65 rfl 0 rfl ?_
    refine G_getR (r := r0 + 13) 5 4 (w5_kd hw5_r0) (w5_f4 hw5_r0) cok5 (by decide) rfl fl_X5_23 d_X5_trace_66 ?_
    refine G_iload_n d_X5_trace_69 rfl 2 rfl ?_
    refine G_aaldA (r := r0 + 14 + i2) i2 (w5_k4 hw5_r0) rfl (hb c0) (w5_r4 hw5_r0 i2 (hb c0)) d_X5_trace_70 ?_
    refine G_iload_n d_X5_trace_71 rfl 3 rfl ?_
    refine G_aload_n d_X5_trace_72 rfl 0 rfl ?_
    refine G_getR (r := r0 + 13) 5 4 (w5_kd hw5_r0) (w5_f4 hw5_r0) cok5 (by decide) rfl fl_X5_23 d_X5_trace_73 ?_
    refine G_iload_n d_X5_trace_76 rfl 2 rfl ?_
    refine G_aaldA (r := r0 + 14 + i2) i2 (w5_k4 hw5_r0) rfl (hb c0) (w5_r4 hw5_r0 i2 (hb c0)) d_X5_trace_77 ?_
    refine G_iload_n d_X5_trace_78 rfl 3 rfl ?_
    refine G_iald i3 (w5_q4 hw5_r0 i2 (hb c0)) rfl (hb_2 c0) d_X5_trace_79 ?_
    refine G_aload_n d_X5_trace_80 rfl 0 rfl ?_
    refine G_getR (r := r0 + 13) 5 4 (w5_kd hw5_r0) (w5_f4 hw5_r0) cok5 (by decide) rfl fl_X5_23 d_X5_trace_81 ?_
    refine G_iload_n d_X5_trace_84 rfl 2 rfl ?_
    refine G_aaldA (r := r0 + 14 + i2) i2 (w5_k4 hw5_r0) rfl (hb c0) (w5_r4 hw5_r0 i2 (hb c0)) d_X5_trace_85 ?_
    refine G_iload_n d_X5_trace_86 rfl 1 rfl ?_
    refine G_iald i1 (w5_q4 hw5_r0 i2 (hb c0)) rfl (hb_3 c0) d_X5_trace_87 ?_
    refine G_aload_n d_X5_trace_88 rfl 0 rfl ?_
    refine G_getR (r := r0 + 13) 5 4 (w5_kd hw5_r0) (w5_f4 hw5_r0) cok5 (by decide) rfl fl_X5_23 d_X5_trace_89 ?_
    refine G_iload_n d_X5_trace_92 rfl 1 rfl ?_
    refine G_aaldA (r := r0 + 14 + i1) i1 (w5_k4 hw5_r0) rfl (hb_3 c0) (w5_r4 hw5_r0 i1 (hb_3 c0)) d_X5_trace_93 ?_
    refine G_iload_n d_X5_trace_94 rfl 3 rfl ?_
    refine G_iald i3 (w5_q4 hw5_r0 i1 (hb_3 c0)) rfl (hb_2 c0) d_X5_trace_95 ?_
    refine G_min ml_X5_73 rb_Rm (Nat.le_of_ble_eq_true rfl) d_X5_trace_96 ?_
    refine G_max ml_X5_52 rb_Rm (Nat.le_of_ble_eq_true rfl) d_X5_trace_99 ?_
    refine G_iast i3 (w5_q4 hw5_r0 i2 (hb c0)) rfl (hb_2 c0) d_X5_trace_102 ?_
    refine G_iinc (L' := [(3, .int (nI (i3 + 1))), (0, .ref r0), (1, .int (nI i1)), (2, .int (nI i2))]) d_X5_trace_103 3 rfl (inc1 i3) (by decide) rfl ?_
    refine G_goto (tgt := 57) d_X5_trace_106 rfl ?_
    refine G_sub (L' := [(0, .ref r0), (1, .int (nI i1)), (2, .int (nI i2)), (3, .int (nI (i3 + 1)))]) [1, 2, 3, 0] rfl ?_
    exact (h_2 c0)
theorem b_X5_trace_123 {X : cX} {d : Nat} {μ : mM} {K : Option Value → mM → Prop} {r0 : Nat} {l1 : Int32} (hK : (3 : Int32) ≤ l1 → K none μ) (h : ¬ (3 : Int32) ≤ l1 → G X (Rm (d + 2)) mX5_trace 130 [(0, .ref r0), (1, .int l1), (2, .int (nI 0))] [] μ 0 0 K) : G X (Rm (d + 2)) mX5_trace 123 [(0, .ref r0), (1, .int l1)] [] μ 0 0 K := by
  refine G_iload_n d_X5_trace_123 rfl 1 rfl ?_
  refine G_iconst d_X5_trace_124 ic_3 ?_
  refine G_icmp_ge (tgt := 164) d_X5_trace_125 rfl (fun c0 => ?_) (fun c0 => ?_)
  ·
    exact G_vret rfl rfl rfl d_X5_trace_164 (hK c0)
  ·
    refine G_iconst d_X5_trace_128 ic_0 ?_
    refine G_istore_n (L' := [(2, .int (nI 0)), (0, .ref r0), (1, .int l1)]) d_X5_trace_129 rfl (by decide) rfl ?_
    refine G_sub (L' := [(0, .ref r0), (1, .int l1), (2, .int (nI 0))]) [1, 2, 0] rfl ?_
    exact (h c0)
theorem b_X5_trace_130 {X : cX} {d : Nat} {μ : mM} {K : Option Value → mM → Prop} {r0 : Nat} {i1 : Nat} {l2 : Int32} (hw5_r0 : WF5 μ r0) (h : (iv μ r0 0) ≤ l2 → G X (Rm (d + 2)) mX5_trace 123 [(0, .ref r0), (1, .int (nI (i1 + 1)))] [] μ 0 0 K) (hb : ¬ (iv μ r0 0) ≤ l2 → i1 < 3) (hc_reaching : ¬ (iv μ r0 0) ≤ l2 → Ct X (Rm (d + 1)) mX5_reaching [.ref r0, .int (nI i1), .int l2] μ (fun r μ2 => G X (Rm (d + 2)) mX5_trace 151 [(0, .ref r0), (1, .int (nI i1)), (2, .int l2)] (r.toList ++ [.int l2, .ref (r0 + 21 + i1)]) μ2 0 0 K)) : G X (Rm (d + 2)) mX5_trace 130 [(0, .ref r0), (1, .int (nI i1)), (2, .int l2)] [] μ 0 0 K := by
  refine G_iload_n d_X5_trace_130 rfl 2 rfl ?_
  refine G_aload_n d_X5_trace_131 rfl 0 rfl ?_
  refine G_getI 5 0 (w5_kd hw5_r0) cok5 (by decide) rfl fl_X5_29 d_X5_trace_132 ?_
  refine G_icmp_ge (tgt := 158) d_X5_trace_135 rfl (fun c0 => ?_) (fun c0 => ?_)
  ·
    refine G_iinc (L' := [(1, .int (nI (i1 + 1))), (0, .ref r0), (2, .int l2)]) d_X5_trace_158 1 rfl (inc1 i1) (by decide) rfl ?_
    refine G_goto (tgt := 123) d_X5_trace_161 rfl ?_
    refine G_sub (L' := [(0, .ref r0), (1, .int (nI (i1 + 1)))]) [1, 0] rfl ?_
    exact (h c0)
  ·
    refine G_aload_n d_X5_trace_138 rfl 0 rfl ?_
    refine G_getR (r := r0 + 20) 5 5 (w5_kd hw5_r0) (w5_f5 hw5_r0) cok5 (by decide) rfl fl_X5_26 d_X5_trace_139 ?_
    refine G_iload_n d_X5_trace_142 rfl 1 rfl ?_
    refine G_aaldA (r := r0 + 21 + i1) i1 (w5_k5 hw5_r0) rfl (hb c0) (w5_r5 hw5_r0 i1 (hb c0)) d_X5_trace_143 ?_
    refine G_iload_n d_X5_trace_144 rfl 2 rfl ?_
    refine G_aload_n d_X5_trace_145 rfl 0 rfl ?_
    refine G_iload_n d_X5_trace_146 rfl 1 rfl ?_
    refine G_iload_n d_X5_trace_147 rfl 2 rfl ?_
    refine G_callV (M' := mX5_reaching) (R' := (Rm (d + 1))) (S := [.int l2, .ref (r0 + 21 + i1)]) [.int (nI i1), .int l2] 5 (w5_kd hw5_r0) cok5 rfl ok_X5_reaching ml_X5_76 pn_X5_reaching (ru_Rm (by decide)) (Nat.le_of_ble_eq_true rfl) d_X5_trace_148 ?_
    exact (hc_reaching c0)
theorem b_X5_trace_151 {X : cX} {d : Nat} {μ : mM} {K : Option Value → mM → Prop} {r0 : Nat} {l1 : Int32} {i2 : Nat} {q0 : Nat} {v1 : Int32} {v2 : Int32} {n0 : Nat} {j0 : Nat} (hk_q0 : kd μ q0 = (1, n0)) (hi_j0 : v1 = nI j0) (hb : j0 < n0) (h : G X (Rm (d + 2)) mX5_trace 130 [(0, .ref r0), (1, .int l1), (2, .int (nI (i2 + 1)))] [] (wi μ q0 j0 v2) 0 0 K) : G X (Rm (d + 2)) mX5_trace 151 [(0, .ref r0), (1, .int l1), (2, .int (nI i2))] [.int v2, .int v1, .ref q0] μ 0 0 K := by
  refine G_iast j0 hk_q0 hi_j0 hb d_X5_trace_151 ?_
  refine G_iinc (L' := [(2, .int (nI (i2 + 1))), (0, .ref r0), (1, .int l1)]) d_X5_trace_152 2 rfl (inc1 i2) (by decide) rfl ?_
  refine G_goto (tgt := 130) d_X5_trace_155 rfl ?_
  refine G_sub (L' := [(0, .ref r0), (1, .int l1), (2, .int (nI (i2 + 1)))]) [1, 2, 0] rfl ?_
  exact h
theorem d_X5_clear_0 : decode cX5_clear 0 = .ok (.aload_n 0, 1) := by decide +kernel
theorem d_X5_clear_1 : decode cX5_clear 1 = .ok (.iconst 0, 1) := by decide +kernel
theorem d_X5_clear_2 : decode cX5_clear 2 = .ok (.putfield 29, 3) := by decide +kernel
theorem d_X5_clear_5 : decode cX5_clear 5 = .ok (.iconst 0, 1) := by decide +kernel
theorem d_X5_clear_6 : decode cX5_clear 6 = .ok (.istore_n 1, 1) := by decide +kernel
theorem d_X5_clear_7 : decode cX5_clear 7 = .ok (.iload_n 1, 1) := by decide +kernel
theorem d_X5_clear_8 : decode cX5_clear 8 = .ok (.iconst 3, 1) := by decide +kernel
theorem d_X5_clear_9 : decode cX5_clear 9 = .ok (.if_icmp .ge 19, 3) := by decide +kernel
theorem d_X5_clear_12 : decode cX5_clear 12 = .ok (.aload_n 0, 1) := by decide +kernel
theorem d_X5_clear_13 : decode cX5_clear 13 = .ok (.getfield 17, 3) := by decide +kernel
theorem d_X5_clear_16 : decode cX5_clear 16 = .ok (.iload_n 1, 1) := by decide +kernel
theorem d_X5_clear_17 : decode cX5_clear 17 = .ok (.aaload, 1) := by decide +kernel
theorem d_X5_clear_18 : decode cX5_clear 18 = .ok (.iconst 0, 1) := by decide +kernel
theorem d_X5_clear_19 : decode cX5_clear 19 = .ok (.invokestatic 33, 3) := by decide +kernel
theorem d_X5_clear_22 : decode cX5_clear 22 = .ok (.iinc 1 1, 3) := by decide +kernel
theorem d_X5_clear_25 : decode cX5_clear 25 = .ok (.goto (-18), 3) := by decide +kernel
theorem d_X5_clear_28 : decode cX5_clear 28 = .ok (.iconst 0, 1) := by decide +kernel
theorem d_X5_clear_29 : decode cX5_clear 29 = .ok (.istore_n 1, 1) := by decide +kernel
theorem d_X5_clear_30 : decode cX5_clear 30 = .ok (.iload_n 1, 1) := by decide +kernel
theorem d_X5_clear_31 : decode cX5_clear 31 = .ok (.bipush 6, 2) := by decide +kernel
theorem d_X5_clear_33 : decode cX5_clear 33 = .ok (.if_icmp .ge 26, 3) := by decide +kernel
theorem d_X5_clear_36 : decode cX5_clear 36 = .ok (.aload_n 0, 1) := by decide +kernel
theorem d_X5_clear_37 : decode cX5_clear 37 = .ok (.getfield 9, 3) := by decide +kernel
theorem d_X5_clear_40 : decode cX5_clear 40 = .ok (.iload_n 1, 1) := by decide +kernel
theorem d_X5_clear_41 : decode cX5_clear 41 = .ok (.iconst 0, 1) := by decide +kernel
theorem d_X5_clear_42 : decode cX5_clear 42 = .ok (.bastore, 1) := by decide +kernel
theorem d_X5_clear_43 : decode cX5_clear 43 = .ok (.aload_n 0, 1) := by decide +kernel
theorem d_X5_clear_44 : decode cX5_clear 44 = .ok (.getfield 20, 3) := by decide +kernel
theorem d_X5_clear_47 : decode cX5_clear 47 = .ok (.iload_n 1, 1) := by decide +kernel
theorem d_X5_clear_48 : decode cX5_clear 48 = .ok (.aaload, 1) := by decide +kernel
theorem d_X5_clear_49 : decode cX5_clear 49 = .ok (.iconst 0, 1) := by decide +kernel
theorem d_X5_clear_50 : decode cX5_clear 50 = .ok (.invokestatic 33, 3) := by decide +kernel
theorem d_X5_clear_53 : decode cX5_clear 53 = .ok (.iinc 1 1, 3) := by decide +kernel
theorem d_X5_clear_56 : decode cX5_clear 56 = .ok (.goto (-26), 3) := by decide +kernel
theorem d_X5_clear_59 : decode cX5_clear 59 = .ok (.return_, 1) := by decide +kernel
theorem b_X5_clear_0 {X : cX} {d : Nat} {μ : mM} {K : Option Value → mM → Prop} {r0 : Nat} (hw5_r0 : WF5 μ r0) (h : G X (Rm (d + 1)) mX5_clear 7 [(0, .ref r0), (1, .int (nI 0))] [] (wi μ r0 0 0) 0 0 K) : G X (Rm (d + 1)) mX5_clear 0 [(0, .ref r0)] [] μ 0 0 K := by
  refine G_aload_n d_X5_clear_0 rfl 0 rfl ?_
  refine G_iconst d_X5_clear_1 ic_0 ?_
  refine G_putI 5 0 (w5_kd hw5_r0) rfl rfl cok5 (by decide) rfl (Or.inl rfl) fl_X5_29 d_X5_clear_2 ?_
  refine G_iconst d_X5_clear_5 ic_0 ?_
  refine G_istore_n (L' := [(1, .int (nI 0)), (0, .ref r0)]) d_X5_clear_6 rfl (by decide) rfl ?_
  refine G_sub (L' := [(0, .ref r0), (1, .int (nI 0))]) [1, 0] rfl ?_
  exact h
theorem b_X5_clear_7 {X : cX} {d : Nat} {μ : mM} {K : Option Value → mM → Prop} {r0 : Nat} {i1 : Nat} (h : (3 : Int32) ≤ (nI i1) → G X (Rm (d + 1)) mX5_clear 30 [(0, .ref r0), (1, .int (nI 0))] [] μ 0 0 K) (hw5_r0 : WF5 μ r0) (hb : ¬ (3 : Int32) ≤ (nI i1) → i1 < 3) (hc_fill : ¬ (3 : Int32) ≤ (nI i1) → Ct X (Rm d) mJ7_fill_53178 [.ref (r0 + 3 + i1), .int 0] μ (fun r μ2 => G X (Rm (d + 1)) mX5_clear 22 [(0, .ref r0), (1, .int (nI i1))] (r.toList ++ []) μ2 0 0 K)) : G X (Rm (d + 1)) mX5_clear 7 [(0, .ref r0), (1, .int (nI i1))] [] μ 0 0 K := by
  refine G_iload_n d_X5_clear_7 rfl 1 rfl ?_
  refine G_iconst d_X5_clear_8 ic_3 ?_
  refine G_icmp_ge (tgt := 28) d_X5_clear_9 rfl (fun c0 => ?_) (fun c0 => ?_)
  ·
    refine G_iconst d_X5_clear_28 ic_0 ?_
    refine G_istore_n (L' := [(1, .int (nI 0)), (0, .ref r0)]) d_X5_clear_29 rfl (by decide) rfl ?_
    refine G_sub (L' := [(0, .ref r0), (1, .int (nI 0))]) [1, 0] rfl ?_
    exact (h c0)
  ·
    refine G_aload_n d_X5_clear_12 rfl 0 rfl ?_
    refine G_getR (r := r0 + 2) 5 2 (w5_kd hw5_r0) (w5_f2 hw5_r0) cok5 (by decide) rfl fl_X5_17 d_X5_clear_13 ?_
    refine G_iload_n d_X5_clear_16 rfl 1 rfl ?_
    refine G_aaldA (r := r0 + 3 + i1) i1 (w5_k2 hw5_r0) rfl (hb c0) (w5_r2 hw5_r0 i1 (hb c0)) d_X5_clear_17 ?_
    refine G_iconst d_X5_clear_18 ic_0 ?_
    refine G_callS (M' := mJ7_fill_53178) (R' := (Rm d)) (S := []) [.ref (r0 + 3 + i1), .int 0] ok_J7_fill_53178 ml_X5_33 pn_J7_fill_53178 (ru_Rm (by decide)) (Nat.le_of_ble_eq_true rfl) d_X5_clear_19 ?_
    exact (hc_fill c0)
theorem b_X5_clear_22 {X : cX} {d : Nat} {μ : mM} {K : Option Value → mM → Prop} {r0 : Nat} {i1 : Nat} (h : G X (Rm (d + 1)) mX5_clear 7 [(0, .ref r0), (1, .int (nI (i1 + 1)))] [] μ 0 0 K) : G X (Rm (d + 1)) mX5_clear 22 [(0, .ref r0), (1, .int (nI i1))] [] μ 0 0 K := by
  refine G_iinc (L' := [(1, .int (nI (i1 + 1))), (0, .ref r0)]) d_X5_clear_22 1 rfl (inc1 i1) (by decide) rfl ?_
  refine G_goto (tgt := 7) d_X5_clear_25 rfl ?_
  refine G_sub (L' := [(0, .ref r0), (1, .int (nI (i1 + 1)))]) [1, 0] rfl ?_
  exact h
theorem b_X5_clear_30 {X : cX} {d : Nat} {μ : mM} {K : Option Value → mM → Prop} {r0 : Nat} {i1 : Nat} (hK : (6 : Int32) ≤ (nI i1) → K none μ) (hw5_r0 : WF5 μ r0) (hb : ¬ (6 : Int32) ≤ (nI i1) → i1 < 6) (hc_fill : ¬ (6 : Int32) ≤ (nI i1) → Ct X (Rm d) mJ7_fill_53178 [.ref (r0 + 7 + i1), .int 0] (wi μ (r0 + 1) i1 0) (fun r μ2 => G X (Rm (d + 1)) mX5_clear 53 [(0, .ref r0), (1, .int (nI i1))] (r.toList ++ []) μ2 0 0 K)) : G X (Rm (d + 1)) mX5_clear 30 [(0, .ref r0), (1, .int (nI i1))] [] μ 0 0 K := by
  refine G_iload_n d_X5_clear_30 rfl 1 rfl ?_
  refine G_bipush d_X5_clear_31 bp_6 ?_
  refine G_icmp_ge (tgt := 59) d_X5_clear_33 rfl (fun c0 => ?_) (fun c0 => ?_)
  ·
    exact G_vret rfl rfl rfl d_X5_clear_59 (hK c0)
  ·
    refine G_aload_n d_X5_clear_36 rfl 0 rfl ?_
    refine G_getR (r := r0 + 1) 5 1 (w5_kd hw5_r0) (w5_f1 hw5_r0) cok5 (by decide) rfl fl_X5_9 d_X5_clear_37 ?_
    refine G_iload_n d_X5_clear_40 rfl 1 rfl ?_
    refine G_iconst d_X5_clear_41 ic_0 ?_
    refine G_zast (v := 0) i1 (w5_k1 hw5_r0) rfl (hb c0) rfl d_X5_clear_42 ?_
    refine G_aload_n d_X5_clear_43 rfl 0 rfl ?_
    refine G_getR (r := r0 + 6) 5 3 (w5_kd hw5_r0) (w5_f3 hw5_r0) cok5 (by decide) rfl fl_X5_20 d_X5_clear_44 ?_
    refine G_iload_n d_X5_clear_47 rfl 1 rfl ?_
    refine G_aaldA (r := r0 + 7 + i1) i1 (w5_k3 hw5_r0) rfl (hb c0) (w5_r3 hw5_r0 i1 (hb c0)) d_X5_clear_48 ?_
    refine G_iconst d_X5_clear_49 ic_0 ?_
    refine G_callS (M' := mJ7_fill_53178) (R' := (Rm d)) (S := []) [.ref (r0 + 7 + i1), .int 0] ok_J7_fill_53178 ml_X5_33 pn_J7_fill_53178 (ru_Rm (by decide)) (Nat.le_of_ble_eq_true rfl) d_X5_clear_50 ?_
    exact (hc_fill c0)
theorem b_X5_clear_53 {X : cX} {d : Nat} {μ : mM} {K : Option Value → mM → Prop} {r0 : Nat} {i1 : Nat} (h : G X (Rm (d + 1)) mX5_clear 30 [(0, .ref r0), (1, .int (nI (i1 + 1)))] [] μ 0 0 K) : G X (Rm (d + 1)) mX5_clear 53 [(0, .ref r0), (1, .int (nI i1))] [] μ 0 0 K := by
  refine G_iinc (L' := [(1, .int (nI (i1 + 1))), (0, .ref r0)]) d_X5_clear_53 1 rfl (inc1 i1) (by decide) rfl ?_
  refine G_goto (tgt := 30) d_X5_clear_56 rfl ?_
  refine G_sub (L' := [(0, .ref r0), (1, .int (nI (i1 + 1)))]) [1, 0] rfl ?_
  exact h
theorem d_X2_alike_0 : decode cX2_alike 0 = .ok (.iconst 0, 1) := by decide +kernel
theorem d_X2_alike_1 : decode cX2_alike 1 = .ok (.istore_n 3, 1) := by decide +kernel
theorem d_X2_alike_2 : decode cX2_alike 2 = .ok (.iload_n 3, 1) := by decide +kernel
theorem d_X2_alike_3 : decode cX2_alike 3 = .ok (.iconst 3, 1) := by decide +kernel
theorem d_X2_alike_4 : decode cX2_alike 4 = .ok (.if_icmp .ge 24, 3) := by decide +kernel
theorem d_X2_alike_7 : decode cX2_alike 7 = .ok (.aload_n 0, 1) := by decide +kernel
theorem d_X2_alike_8 : decode cX2_alike 8 = .ok (.iload_n 3, 1) := by decide +kernel
theorem d_X2_alike_9 : decode cX2_alike 9 = .ok (.aaload, 1) := by decide +kernel
theorem d_X2_alike_10 : decode cX2_alike 10 = .ok (.iload_n 1, 1) := by decide +kernel
theorem d_X2_alike_11 : decode cX2_alike 11 = .ok (.iaload, 1) := by decide +kernel
theorem d_X2_alike_12 : decode cX2_alike 12 = .ok (.aload_n 0, 1) := by decide +kernel
theorem d_X2_alike_13 : decode cX2_alike 13 = .ok (.iload_n 3, 1) := by decide +kernel
theorem d_X2_alike_14 : decode cX2_alike 14 = .ok (.aaload, 1) := by decide +kernel
theorem d_X2_alike_15 : decode cX2_alike 15 = .ok (.iload_n 2, 1) := by decide +kernel
theorem d_X2_alike_16 : decode cX2_alike 16 = .ok (.iaload, 1) := by decide +kernel
theorem d_X2_alike_17 : decode cX2_alike 17 = .ok (.if_icmp .eq 5, 3) := by decide +kernel
theorem d_X2_alike_20 : decode cX2_alike 20 = .ok (.iconst 0, 1) := by decide +kernel
theorem d_X2_alike_21 : decode cX2_alike 21 = .ok (.ireturn, 1) := by decide +kernel
theorem d_X2_alike_22 : decode cX2_alike 22 = .ok (.iinc 3 1, 3) := by decide +kernel
theorem d_X2_alike_25 : decode cX2_alike 25 = .ok (.goto (-23), 3) := by decide +kernel
theorem d_X2_alike_28 : decode cX2_alike 28 = .ok (.iconst 1, 1) := by decide +kernel
theorem d_X2_alike_29 : decode cX2_alike 29 = .ok (.ireturn, 1) := by decide +kernel
theorem b_X2_alike_0 {X : cX} {d : Nat} {μ : mM} {K : Option Value → mM → Prop} {r0 : Nat} {l1 : Int32} {l2 : Int32} (h : G X (Rm d) mX2_alike 2 [(0, .ref r0), (1, .int l1), (2, .int l2), (3, .int (nI 0))] [] μ 0 0 K) : G X (Rm d) mX2_alike 0 [(0, .ref r0), (1, .int l1), (2, .int l2)] [] μ 0 0 K := by
  refine G_iconst d_X2_alike_0 ic_0 ?_
  refine G_istore_n (L' := [(3, .int (nI 0)), (0, .ref r0), (1, .int l1), (2, .int l2)]) d_X2_alike_1 rfl (by decide) rfl ?_
  refine G_sub (L' := [(0, .ref r0), (1, .int l1), (2, .int l2), (3, .int (nI 0))]) [1, 2, 3, 0] rfl ?_
  exact h
theorem b_X2_alike_2 {X : cX} {d : Nat} {μ : mM} {K : Option Value → mM → Prop} {r0 : Nat} {i1 : Nat} {i2 : Nat} {i3 : Nat} {n0 : Nat} {p0 : Nat} {n1 : Nat} (hK : (3 : Int32) ≤ (nI i3) → K (some (.int 1)) μ) (hk_r0 : kd μ r0 = (4, n0)) (hb : ¬ (3 : Int32) ≤ (nI i3) → i3 < n0) (hr_p0 : ¬ (3 : Int32) ≤ (nI i3) → rv μ r0 i3 = some p0) (hk_p0 : kd μ p0 = (1, n1)) (hb_2 : ¬ (3 : Int32) ≤ (nI i3) → i1 < n1) (hb_3 : ¬ (3 : Int32) ≤ (nI i3) → i2 < n1) (h : ¬ (3 : Int32) ≤ (nI i3) → (iv μ p0 i1) = (iv μ p0 i2) → G X (Rm d) mX2_alike 2 [(0, .ref r0), (1, .int (nI i1)), (2, .int (nI i2)), (3, .int (nI (i3 + 1)))] [] μ 0 0 K) (hK_2 : ¬ (3 : Int32) ≤ (nI i3) → ¬ (iv μ p0 i1) = (iv μ p0 i2) → K (some (.int 0)) μ) : G X (Rm d) mX2_alike 2 [(0, .ref r0), (1, .int (nI i1)), (2, .int (nI i2)), (3, .int (nI i3))] [] μ 0 0 K := by
  refine G_iload_n d_X2_alike_2 rfl 3 rfl ?_
  refine G_iconst d_X2_alike_3 ic_3 ?_
  refine G_icmp_ge (tgt := 28) d_X2_alike_4 rfl (fun c0 => ?_) (fun c0 => ?_)
  ·
    refine G_iconst d_X2_alike_28 ic_1 ?_
    exact G_zret rfl rfl rfl rfl d_X2_alike_29 (hK c0)
  ·
    refine G_aload_n d_X2_alike_7 rfl 0 rfl ?_
    refine G_iload_n d_X2_alike_8 rfl 3 rfl ?_
    refine G_aaldA (r := p0) i3 hk_r0 rfl (hb c0) (hr_p0 c0) d_X2_alike_9 ?_
    refine G_iload_n d_X2_alike_10 rfl 1 rfl ?_
    refine G_iald i1 hk_p0 rfl (hb_2 c0) d_X2_alike_11 ?_
    refine G_aload_n d_X2_alike_12 rfl 0 rfl ?_
    refine G_iload_n d_X2_alike_13 rfl 3 rfl ?_
    refine G_aaldA (r := p0) i3 hk_r0 rfl (hb c0) (hr_p0 c0) d_X2_alike_14 ?_
    refine G_iload_n d_X2_alike_15 rfl 2 rfl ?_
    refine G_iald i2 hk_p0 rfl (hb_3 c0) d_X2_alike_16 ?_
    refine G_icmp_eq (tgt := 22) d_X2_alike_17 rfl (fun c1 => ?_) (fun c1 => ?_)
    ·
      refine G_iinc (L' := [(3, .int (nI (i3 + 1))), (0, .ref r0), (1, .int (nI i1)), (2, .int (nI i2))]) d_X2_alike_22 3 rfl (inc1 i3) (by decide) rfl ?_
      refine G_goto (tgt := 2) d_X2_alike_25 rfl ?_
      refine G_sub (L' := [(0, .ref r0), (1, .int (nI i1)), (2, .int (nI i2)), (3, .int (nI (i3 + 1)))]) [1, 2, 3, 0] rfl ?_
      exact (h c0 c1)
    ·
      refine G_iconst d_X2_alike_20 ic_0 ?_
      exact G_zret rfl rfl rfl rfl d_X2_alike_21 (hK_2 c0 c1)
theorem d_X2_joinGroup_0 : decode cX2_joinGroup 0 = .ok (.iconst 0, 1) := by decide +kernel
theorem d_X2_joinGroup_1 : decode cX2_joinGroup 1 = .ok (.istore 4, 2) := by decide +kernel
theorem d_X2_joinGroup_3 : decode cX2_joinGroup 3 = .ok (.iload 4, 2) := by decide +kernel
theorem d_X2_joinGroup_5 : decode cX2_joinGroup 5 = .ok (.iload_n 3, 1) := by decide +kernel
theorem d_X2_joinGroup_6 : decode cX2_joinGroup 6 = .ok (.if_icmp .ge 69, 3) := by decide +kernel
theorem d_X2_joinGroup_9 : decode cX2_joinGroup 9 = .ok (.aload_n 1, 1) := by decide +kernel
theorem d_X2_joinGroup_10 : decode cX2_joinGroup 10 = .ok (.getfield 43, 3) := by decide +kernel
theorem d_X2_joinGroup_13 : decode cX2_joinGroup 13 = .ok (.iload_n 3, 1) := by decide +kernel
theorem d_X2_joinGroup_14 : decode cX2_joinGroup 14 = .ok (.iload 4, 2) := by decide +kernel
theorem d_X2_joinGroup_16 : decode cX2_joinGroup 16 = .ok (.invokestatic 47, 3) := by decide +kernel
theorem d_X2_joinGroup_19 : decode cX2_joinGroup 19 = .ok (.ifCond .eq 50, 3) := by decide +kernel
theorem d_X2_joinGroup_22 : decode cX2_joinGroup 22 = .ok (.iload_n 2, 1) := by decide +kernel
theorem d_X2_joinGroup_23 : decode cX2_joinGroup 23 = .ok (.ifCond .eq 16, 3) := by decide +kernel
theorem d_X2_joinGroup_26 : decode cX2_joinGroup 26 = .ok (.aload_n 1, 1) := by decide +kernel
theorem d_X2_joinGroup_27 : decode cX2_joinGroup 27 = .ok (.getfield 51, 3) := by decide +kernel
theorem d_X2_joinGroup_30 : decode cX2_joinGroup 30 = .ok (.iload_n 3, 1) := by decide +kernel
theorem d_X2_joinGroup_31 : decode cX2_joinGroup 31 = .ok (.iload 4, 2) := by decide +kernel
theorem d_X2_joinGroup_33 : decode cX2_joinGroup 33 = .ok (.invokestatic 47, 3) := by decide +kernel
theorem d_X2_joinGroup_36 : decode cX2_joinGroup 36 = .ok (.ifCond .eq 33, 3) := by decide +kernel
theorem d_X2_joinGroup_39 : decode cX2_joinGroup 39 = .ok (.aload_n 0, 1) := by decide +kernel
theorem d_X2_joinGroup_40 : decode cX2_joinGroup 40 = .ok (.getfield 18, 3) := by decide +kernel
theorem d_X2_joinGroup_43 : decode cX2_joinGroup 43 = .ok (.iload_n 3, 1) := by decide +kernel
theorem d_X2_joinGroup_44 : decode cX2_joinGroup 44 = .ok (.aload_n 0, 1) := by decide +kernel
theorem d_X2_joinGroup_45 : decode cX2_joinGroup 45 = .ok (.getfield 18, 3) := by decide +kernel
theorem d_X2_joinGroup_48 : decode cX2_joinGroup 48 = .ok (.iload 4, 2) := by decide +kernel
theorem d_X2_joinGroup_50 : decode cX2_joinGroup 50 = .ok (.iaload, 1) := by decide +kernel
theorem d_X2_joinGroup_51 : decode cX2_joinGroup 51 = .ok (.iastore, 1) := by decide +kernel
theorem d_X2_joinGroup_52 : decode cX2_joinGroup 52 = .ok (.aload_n 0, 1) := by decide +kernel
theorem d_X2_joinGroup_53 : decode cX2_joinGroup 53 = .ok (.getfield 12, 3) := by decide +kernel
theorem d_X2_joinGroup_56 : decode cX2_joinGroup 56 = .ok (.getfield 54, 3) := by decide +kernel
theorem d_X2_joinGroup_59 : decode cX2_joinGroup 59 = .ok (.aload_n 0, 1) := by decide +kernel
theorem d_X2_joinGroup_60 : decode cX2_joinGroup 60 = .ok (.getfield 18, 3) := by decide +kernel
theorem d_X2_joinGroup_63 : decode cX2_joinGroup 63 = .ok (.iload 4, 2) := by decide +kernel
theorem d_X2_joinGroup_65 : decode cX2_joinGroup 65 = .ok (.iaload, 1) := by decide +kernel
theorem d_X2_joinGroup_66 : decode cX2_joinGroup 66 = .ok (.iconst 1, 1) := by decide +kernel
theorem d_X2_joinGroup_67 : decode cX2_joinGroup 67 = .ok (.bastore, 1) := by decide +kernel
theorem d_X2_joinGroup_68 : decode cX2_joinGroup 68 = .ok (.return_, 1) := by decide +kernel
theorem d_X2_joinGroup_69 : decode cX2_joinGroup 69 = .ok (.iinc 4 1, 3) := by decide +kernel
theorem d_X2_joinGroup_72 : decode cX2_joinGroup 72 = .ok (.goto (-69), 3) := by decide +kernel
theorem d_X2_joinGroup_75 : decode cX2_joinGroup 75 = .ok (.aload_n 0, 1) := by decide +kernel
theorem d_X2_joinGroup_76 : decode cX2_joinGroup 76 = .ok (.getfield 18, 3) := by decide +kernel
theorem d_X2_joinGroup_79 : decode cX2_joinGroup 79 = .ok (.iload_n 3, 1) := by decide +kernel
theorem d_X2_joinGroup_80 : decode cX2_joinGroup 80 = .ok (.aload_n 0, 1) := by decide +kernel
theorem d_X2_joinGroup_81 : decode cX2_joinGroup 81 = .ok (.getfield 12, 3) := by decide +kernel
theorem d_X2_joinGroup_84 : decode cX2_joinGroup 84 = .ok (.getfield 28, 3) := by decide +kernel
theorem d_X2_joinGroup_87 : decode cX2_joinGroup 87 = .ok (.iastore, 1) := by decide +kernel
theorem d_X2_joinGroup_88 : decode cX2_joinGroup 88 = .ok (.iconst 0, 1) := by decide +kernel
theorem d_X2_joinGroup_89 : decode cX2_joinGroup 89 = .ok (.istore 4, 2) := by decide +kernel
theorem d_X2_joinGroup_91 : decode cX2_joinGroup 91 = .ok (.iload 4, 2) := by decide +kernel
theorem d_X2_joinGroup_93 : decode cX2_joinGroup 93 = .ok (.iconst 3, 1) := by decide +kernel
theorem d_X2_joinGroup_94 : decode cX2_joinGroup 94 = .ok (.if_icmp .ge 36, 3) := by decide +kernel
theorem d_X2_joinGroup_97 : decode cX2_joinGroup 97 = .ok (.aload_n 0, 1) := by decide +kernel
theorem d_X2_joinGroup_98 : decode cX2_joinGroup 98 = .ok (.getfield 12, 3) := by decide +kernel
theorem d_X2_joinGroup_101 : decode cX2_joinGroup 101 = .ok (.getfield 43, 3) := by decide +kernel
theorem d_X2_joinGroup_104 : decode cX2_joinGroup 104 = .ok (.iload 4, 2) := by decide +kernel
theorem d_X2_joinGroup_106 : decode cX2_joinGroup 106 = .ok (.aaload, 1) := by decide +kernel
theorem d_X2_joinGroup_107 : decode cX2_joinGroup 107 = .ok (.aload_n 0, 1) := by decide +kernel
theorem d_X2_joinGroup_108 : decode cX2_joinGroup 108 = .ok (.getfield 12, 3) := by decide +kernel
theorem d_X2_joinGroup_111 : decode cX2_joinGroup 111 = .ok (.getfield 28, 3) := by decide +kernel
theorem d_X2_joinGroup_114 : decode cX2_joinGroup 114 = .ok (.aload_n 1, 1) := by decide +kernel
theorem d_X2_joinGroup_115 : decode cX2_joinGroup 115 = .ok (.getfield 43, 3) := by decide +kernel
theorem d_X2_joinGroup_118 : decode cX2_joinGroup 118 = .ok (.iload 4, 2) := by decide +kernel
theorem d_X2_joinGroup_120 : decode cX2_joinGroup 120 = .ok (.aaload, 1) := by decide +kernel
theorem d_X2_joinGroup_121 : decode cX2_joinGroup 121 = .ok (.iload_n 3, 1) := by decide +kernel
theorem d_X2_joinGroup_122 : decode cX2_joinGroup 122 = .ok (.iaload, 1) := by decide +kernel
theorem d_X2_joinGroup_123 : decode cX2_joinGroup 123 = .ok (.iastore, 1) := by decide +kernel
theorem d_X2_joinGroup_124 : decode cX2_joinGroup 124 = .ok (.iinc 4 1, 3) := by decide +kernel
theorem d_X2_joinGroup_127 : decode cX2_joinGroup 127 = .ok (.goto (-36), 3) := by decide +kernel
theorem d_X2_joinGroup_130 : decode cX2_joinGroup 130 = .ok (.aload_n 0, 1) := by decide +kernel
theorem d_X2_joinGroup_131 : decode cX2_joinGroup 131 = .ok (.getfield 12, 3) := by decide +kernel
theorem d_X2_joinGroup_134 : decode cX2_joinGroup 134 = .ok (.aload_n 1, 1) := by decide +kernel
theorem d_X2_joinGroup_135 : decode cX2_joinGroup 135 = .ok (.getfield 54, 3) := by decide +kernel
theorem d_X2_joinGroup_138 : decode cX2_joinGroup 138 = .ok (.iload_n 3, 1) := by decide +kernel
theorem d_X2_joinGroup_139 : decode cX2_joinGroup 139 = .ok (.baload, 1) := by decide +kernel
theorem d_X2_joinGroup_140 : decode cX2_joinGroup 140 = .ok (.invokevirtual 58, 3) := by decide +kernel
theorem d_X2_joinGroup_143 : decode cX2_joinGroup 143 = .ok (.return_, 1) := by decide +kernel
theorem b_X2_joinGroup_0 {X : cX} {d : Nat} {μ : mM} {K : Option Value → mM → Prop} {r0 : Nat} {r1 : Nat} {l2 : Int32} {l3 : Int32} (h : G X (Rm (d + 1)) mX2_joinGroup 3 [(0, .ref r0), (1, .ref r1), (2, .int l2), (3, .int l3), (4, .int (nI 0))] [] μ 0 0 K) : G X (Rm (d + 1)) mX2_joinGroup 0 [(0, .ref r0), (1, .ref r1), (2, .int l2), (3, .int l3)] [] μ 0 0 K := by
  refine G_iconst d_X2_joinGroup_0 ic_0 ?_
  refine G_istore (L' := [(4, .int (nI 0)), (0, .ref r0), (1, .ref r1), (2, .int l2), (3, .int l3)]) d_X2_joinGroup_1 (by decide) rfl ?_
  refine G_sub (L' := [(0, .ref r0), (1, .ref r1), (2, .int l2), (3, .int l3), (4, .int (nI 0))]) [1, 2, 3, 4, 0] rfl ?_
  exact h
theorem b_X2_joinGroup_3 {X : cX} {d : Nat} {μ : mM} {K : Option Value → mM → Prop} {r0 : Nat} {r1 : Nat} {l2 : Int32} {i3 : Nat} {l4 : Int32} (hw2_r0 : WF2 μ r0) (hw5_r01 : WF5 μ (r0 + 1)) (hb : (nI i3) ≤ l4 → i3 < 6) (h : (nI i3) ≤ l4 → G X (Rm (d + 1)) mX2_joinGroup 91 [(0, .ref r0), (1, .ref r1), (3, .int (nI i3)), (4, .int (nI 0))] [] (wi μ (r0 + 25) i3 (iv μ (r0 + 1) 0)) 0 0 K) (hw5_r1 : WF5 μ r1) (hc_alike : ¬ (nI i3) ≤ l4 → Ct X (Rm d) mX2_alike [.ref (r1 + 2), .int (nI i3), .int l4] μ (fun r μ2 => G X (Rm (d + 1)) mX2_joinGroup 19 [(0, .ref r0), (1, .ref r1), (2, .int l2), (3, .int (nI i3)), (4, .int l4)] (r.toList ++ []) μ2 0 0 K)) : G X (Rm (d + 1)) mX2_joinGroup 3 [(0, .ref r0), (1, .ref r1), (2, .int l2), (3, .int (nI i3)), (4, .int l4)] [] μ 0 0 K := by
  refine G_iload d_X2_joinGroup_3 4 rfl ?_
  refine G_iload_n d_X2_joinGroup_5 rfl 3 rfl ?_
  refine G_icmp_ge (tgt := 75) d_X2_joinGroup_6 rfl (fun c0 => ?_) (fun c0 => ?_)
  ·
    refine G_aload_n d_X2_joinGroup_75 rfl 0 rfl ?_
    refine G_getR (r := r0 + 25) 2 1 (w2_kd hw2_r0) (w2_f1 hw2_r0) cok2 (by decide) rfl fl_X2_18 d_X2_joinGroup_76 ?_
    refine G_iload_n d_X2_joinGroup_79 rfl 3 rfl ?_
    refine G_aload_n d_X2_joinGroup_80 rfl 0 rfl ?_
    refine G_getR (r := r0 + 1) 2 0 (w2_kd hw2_r0) (w2_f0 hw2_r0) cok2 (by decide) rfl fl_X2_12 d_X2_joinGroup_81 ?_
    refine G_getI 5 0 (w5_kd hw5_r01) cok5 (by decide) rfl fl_X2_28 d_X2_joinGroup_84 ?_
    refine G_iast i3 (w2_k1 hw2_r0) rfl (hb c0) d_X2_joinGroup_87 ?_
    refine G_iconst d_X2_joinGroup_88 ic_0 ?_
    refine G_istore (L' := [(4, .int (nI 0)), (0, .ref r0), (1, .ref r1), (2, .int l2), (3, .int (nI i3))]) d_X2_joinGroup_89 (by decide) rfl ?_
    refine G_sub (L' := [(0, .ref r0), (1, .ref r1), (3, .int (nI i3)), (4, .int (nI 0))]) [1, 2, 4, 0] rfl ?_
    exact (h c0)
  ·
    refine G_aload_n d_X2_joinGroup_9 rfl 1 rfl ?_
    refine G_getR (r := r1 + 2) 5 2 (w5_kd hw5_r1) (w5_f2 hw5_r1) cok5 (by decide) rfl fl_X2_43 d_X2_joinGroup_10 ?_
    refine G_iload_n d_X2_joinGroup_13 rfl 3 rfl ?_
    refine G_iload d_X2_joinGroup_14 4 rfl ?_
    refine G_callS (M' := mX2_alike) (R' := (Rm d)) (S := []) [.ref (r1 + 2), .int (nI i3), .int l4] ok_X2_alike ml_X2_47 pn_X2_alike (ru_Rm (by decide)) (Nat.le_of_ble_eq_true rfl) d_X2_joinGroup_16 ?_
    exact (hc_alike c0)
theorem b_X2_joinGroup_19 {X : cX} {d : Nat} {μ : mM} {K : Option Value → mM → Prop} {r0 : Nat} {r1 : Nat} {l2 : Int32} {l3 : Int32} {l4 : Int32} {v0 : Int32} (h : v0 = 0 → G X (Rm (d + 1)) mX2_joinGroup 69 [(0, .ref r0), (1, .ref r1), (2, .int l2), (3, .int l3), (4, .int l4)] [] μ 0 0 K) (h_2 : ¬ v0 = 0 → l2 = 0 → G X (Rm (d + 1)) mX2_joinGroup 39 [(0, .ref r0), (3, .int l3), (4, .int l4)] [] μ 0 0 K) (hw5_r1 : WF5 μ r1) (hc_alike : ¬ v0 = 0 → ¬ l2 = 0 → Ct X (Rm d) mX2_alike [.ref (r1 + 20), .int l3, .int l4] μ (fun r μ2 => G X (Rm (d + 1)) mX2_joinGroup 36 [(0, .ref r0), (1, .ref r1), (2, .int l2), (3, .int l3), (4, .int l4)] (r.toList ++ []) μ2 0 0 K)) : G X (Rm (d + 1)) mX2_joinGroup 19 [(0, .ref r0), (1, .ref r1), (2, .int l2), (3, .int l3), (4, .int l4)] [.int v0] μ 0 0 K := by
  refine G_if_eq (tgt := 69) d_X2_joinGroup_19 rfl (fun c0 => ?_) (fun c0 => ?_)
  ·
    exact (h c0)
  ·
    refine G_iload_n d_X2_joinGroup_22 rfl 2 rfl ?_
    refine G_if_eq (tgt := 39) d_X2_joinGroup_23 rfl (fun c1 => ?_) (fun c1 => ?_)
    ·
      refine G_sub (L' := [(0, .ref r0), (3, .int l3), (4, .int l4)]) [0, 3, 4] rfl ?_
      exact (h_2 c0 c1)
    ·
      refine G_aload_n d_X2_joinGroup_26 rfl 1 rfl ?_
      refine G_getR (r := r1 + 20) 5 5 (w5_kd hw5_r1) (w5_f5 hw5_r1) cok5 (by decide) rfl fl_X2_51 d_X2_joinGroup_27 ?_
      refine G_iload_n d_X2_joinGroup_30 rfl 3 rfl ?_
      refine G_iload d_X2_joinGroup_31 4 rfl ?_
      refine G_callS (M' := mX2_alike) (R' := (Rm d)) (S := []) [.ref (r1 + 20), .int l3, .int l4] ok_X2_alike ml_X2_47 pn_X2_alike (ru_Rm (by decide)) (Nat.le_of_ble_eq_true rfl) d_X2_joinGroup_33 ?_
      exact (hc_alike c0 c1)
theorem b_X2_joinGroup_36 {X : cX} {d : Nat} {μ : mM} {K : Option Value → mM → Prop} {r0 : Nat} {r1 : Nat} {l2 : Int32} {l3 : Int32} {l4 : Int32} {v0 : Int32} (h : v0 = 0 → G X (Rm (d + 1)) mX2_joinGroup 69 [(0, .ref r0), (1, .ref r1), (2, .int l2), (3, .int l3), (4, .int l4)] [] μ 0 0 K) (h_2 : ¬ v0 = 0 → G X (Rm (d + 1)) mX2_joinGroup 39 [(0, .ref r0), (3, .int l3), (4, .int l4)] [] μ 0 0 K) : G X (Rm (d + 1)) mX2_joinGroup 36 [(0, .ref r0), (1, .ref r1), (2, .int l2), (3, .int l3), (4, .int l4)] [.int v0] μ 0 0 K := by
  refine G_if_eq (tgt := 69) d_X2_joinGroup_36 rfl (fun c0 => ?_) (fun c0 => ?_)
  ·
    exact (h c0)
  ·
    refine G_sub (L' := [(0, .ref r0), (3, .int l3), (4, .int l4)]) [0, 3, 4] rfl ?_
    exact (h_2 c0)
theorem b_X2_joinGroup_39 {X : cX} {d : Nat} {μ : mM} {K : Option Value → mM → Prop} {r0 : Nat} {i3 : Nat} {i4 : Nat} {j0 : Nat} (hw2_r0 : WF2 μ r0) (hb : i4 < 6) (hb_2 : i3 < 6) (hw5_r01 : WF5 μ (r0 + 1)) (hi_j0 : iv (wi μ (r0 + 25) i3 (iv μ (r0 + 25) i4)) (r0 + 25) i4 = nI j0) (hb_3 : j0 < 6) (hK : K none (wi (wi μ (r0 + 25) i3 (iv μ (r0 + 25) i4)) (r0 + 1 + 1) j0 1)) : G X (Rm (d + 1)) mX2_joinGroup 39 [(0, .ref r0), (3, .int (nI i3)), (4, .int (nI i4))] [] μ 0 0 K := by
  refine G_aload_n d_X2_joinGroup_39 rfl 0 rfl ?_
  refine G_getR (r := r0 + 25) 2 1 (w2_kd hw2_r0) (w2_f1 hw2_r0) cok2 (by decide) rfl fl_X2_18 d_X2_joinGroup_40 ?_
  refine G_iload_n d_X2_joinGroup_43 rfl 1 rfl ?_
  refine G_aload_n d_X2_joinGroup_44 rfl 0 rfl ?_
  refine G_getR (r := r0 + 25) 2 1 (w2_kd hw2_r0) (w2_f1 hw2_r0) cok2 (by decide) rfl fl_X2_18 d_X2_joinGroup_45 ?_
  refine G_iload d_X2_joinGroup_48 2 rfl ?_
  refine G_iald i4 (w2_k1 hw2_r0) rfl hb d_X2_joinGroup_50 ?_
  refine G_iast i3 (w2_k1 hw2_r0) rfl hb_2 d_X2_joinGroup_51 ?_
  refine G_aload_n d_X2_joinGroup_52 rfl 0 rfl ?_
  refine G_getR (r := r0 + 1) 2 0 (w2_kd hw2_r0) (w2_f0 hw2_r0) cok2 (by decide) rfl fl_X2_12 d_X2_joinGroup_53 ?_
  refine G_getR (r := r0 + 1 + 1) 5 1 (w5_kd hw5_r01) (w5_f1 hw5_r01) cok5 (by decide) rfl fl_X2_54 d_X2_joinGroup_56 ?_
  refine G_aload_n d_X2_joinGroup_59 rfl 0 rfl ?_
  refine G_getR (r := r0 + 25) 2 1 (w2_kd hw2_r0) (w2_f1 hw2_r0) cok2 (by decide) rfl fl_X2_18 d_X2_joinGroup_60 ?_
  refine G_iload d_X2_joinGroup_63 2 rfl ?_
  refine G_iald i4 (w2_k1 hw2_r0) rfl hb d_X2_joinGroup_65 ?_
  refine G_iconst d_X2_joinGroup_66 ic_1 ?_
  refine G_zast (v := 1) j0 (w5_k1 hw5_r01) hi_j0 hb_3 rfl d_X2_joinGroup_67 ?_
  exact G_vret rfl rfl rfl d_X2_joinGroup_68 hK
theorem b_X2_joinGroup_69 {X : cX} {d : Nat} {μ : mM} {K : Option Value → mM → Prop} {r0 : Nat} {r1 : Nat} {l2 : Int32} {l3 : Int32} {i4 : Nat} (h : G X (Rm (d + 1)) mX2_joinGroup 3 [(0, .ref r0), (1, .ref r1), (2, .int l2), (3, .int l3), (4, .int (nI (i4 + 1)))] [] μ 0 0 K) : G X (Rm (d + 1)) mX2_joinGroup 69 [(0, .ref r0), (1, .ref r1), (2, .int l2), (3, .int l3), (4, .int (nI i4))] [] μ 0 0 K := by
  refine G_iinc (L' := [(4, .int (nI (i4 + 1))), (0, .ref r0), (1, .ref r1), (2, .int l2), (3, .int l3)]) d_X2_joinGroup_69 4 rfl (inc1 i4) (by decide) rfl ?_
  refine G_goto (tgt := 3) d_X2_joinGroup_72 rfl ?_
  refine G_sub (L' := [(0, .ref r0), (1, .ref r1), (2, .int l2), (3, .int l3), (4, .int (nI (i4 + 1)))]) [1, 2, 3, 4, 0] rfl ?_
  exact h
theorem b_X2_joinGroup_91 {X : cX} {d : Nat} {μ : mM} {K : Option Value → mM → Prop} {r0 : Nat} {r1 : Nat} {i3 : Nat} {i4 : Nat} {j0 : Nat} (hw2_r0 : WF2 μ r0) (hw5_r1 : WF5 μ r1) (hb : (3 : Int32) ≤ (nI i4) → i3 < 6) (hw5_r01 : WF5 μ (r0 + 1)) (hc_append : (3 : Int32) ≤ (nI i4) → Ct X (Rm d) mX5_append [.ref (r0 + 1), .int (iv μ (r1 + 1) i3)] μ (fun r μ2 => G X (Rm (d + 1)) mX2_joinGroup 143 [] (r.toList ++ []) μ2 0 0 K)) (hb_2 : ¬ (3 : Int32) ≤ (nI i4) → i4 < 3) (hb_3 : ¬ (3 : Int32) ≤ (nI i4) → i3 < 6) (hi_j0 : ¬ (3 : Int32) ≤ (nI i4) → iv μ (r0 + 1) 0 = nI j0) (hb_4 : ¬ (3 : Int32) ≤ (nI i4) → j0 < 6) (h : ¬ (3 : Int32) ≤ (nI i4) → G X (Rm (d + 1)) mX2_joinGroup 91 [(0, .ref r0), (1, .ref r1), (3, .int (nI i3)), (4, .int (nI (i4 + 1)))] [] (wi μ (r0 + 1 + 3 + i4) j0 (iv μ (r1 + 3 + i4) i3)) 0 0 K) : G X (Rm (d + 1)) mX2_joinGroup 91 [(0, .ref r0), (1, .ref r1), (3, .int (nI i3)), (4, .int (nI i4))] [] μ 0 0 K := by
  refine G_iload d_X2_joinGroup_91 3 rfl ?_
  refine G_iconst d_X2_joinGroup_93 ic_3 ?_
  refine G_icmp_ge (tgt := 130) d_X2_joinGroup_94 rfl (fun c0 => ?_) (fun c0 => ?_)
  ·
    refine G_aload_n d_X2_joinGroup_130 rfl 0 rfl ?_
    refine G_getR (r := r0 + 1) 2 0 (w2_kd hw2_r0) (w2_f0 hw2_r0) cok2 (by decide) rfl fl_X2_12 d_X2_joinGroup_131 ?_
    refine G_aload_n d_X2_joinGroup_134 rfl 1 rfl ?_
    refine G_getR (r := r1 + 1) 5 1 (w5_kd hw5_r1) (w5_f1 hw5_r1) cok5 (by decide) rfl fl_X2_54 d_X2_joinGroup_135 ?_
    refine G_iload_n d_X2_joinGroup_138 rfl 2 rfl ?_
    refine G_zald i3 (w5_k1 hw5_r1) rfl (hb c0) d_X2_joinGroup_139 ?_
    refine G_sub (L' := []) [] rfl ?_
    refine G_callV (M' := mX5_append) (R' := (Rm d)) (S := []) [.int (iv μ (r1 + 1) i3)] 5 (w5_kd hw5_r01) cok5 rfl ok_X5_append ml_X2_58 pn_X5_append (ru_Rm (by decide)) (Nat.le_of_ble_eq_true rfl) d_X2_joinGroup_140 ?_
    exact (hc_append c0)
  ·
    refine G_aload_n d_X2_joinGroup_97 rfl 0 rfl ?_
    refine G_getR (r := r0 + 1) 2 0 (w2_kd hw2_r0) (w2_f0 hw2_r0) cok2 (by decide) rfl fl_X2_12 d_X2_joinGroup_98 ?_
    refine G_getR (r := r0 + 1 + 2) 5 2 (w5_kd hw5_r01) (w5_f2 hw5_r01) cok5 (by decide) rfl fl_X2_43 d_X2_joinGroup_101 ?_
    refine G_iload d_X2_joinGroup_104 3 rfl ?_
    refine G_aaldA (r := r0 + 1 + 3 + i4) i4 (w5_k2 hw5_r01) rfl (hb_2 c0) (w5_r2 hw5_r01 i4 (hb_2 c0)) d_X2_joinGroup_106 ?_
    refine G_aload_n d_X2_joinGroup_107 rfl 0 rfl ?_
    refine G_getR (r := r0 + 1) 2 0 (w2_kd hw2_r0) (w2_f0 hw2_r0) cok2 (by decide) rfl fl_X2_12 d_X2_joinGroup_108 ?_
    refine G_getI 5 0 (w5_kd hw5_r01) cok5 (by decide) rfl fl_X2_28 d_X2_joinGroup_111 ?_
    refine G_aload_n d_X2_joinGroup_114 rfl 1 rfl ?_
    refine G_getR (r := r1 + 2) 5 2 (w5_kd hw5_r1) (w5_f2 hw5_r1) cok5 (by decide) rfl fl_X2_43 d_X2_joinGroup_115 ?_
    refine G_iload d_X2_joinGroup_118 3 rfl ?_
    refine G_aaldA (r := r1 + 3 + i4) i4 (w5_k2 hw5_r1) rfl (hb_2 c0) (w5_r2 hw5_r1 i4 (hb_2 c0)) d_X2_joinGroup_120 ?_
    refine G_iload_n d_X2_joinGroup_121 rfl 2 rfl ?_
    refine G_iald i3 (w5_q2 hw5_r1 i4 (hb_2 c0)) rfl (hb_3 c0) d_X2_joinGroup_122 ?_
    refine G_iast j0 (w5_q2 hw5_r01 i4 (hb_2 c0)) (hi_j0 c0) (hb_4 c0) d_X2_joinGroup_123 ?_
    refine G_iinc (L' := [(4, .int (nI (i4 + 1))), (0, .ref r0), (1, .ref r1), (3, .int (nI i3))]) d_X2_joinGroup_124 3 rfl (inc1 i4) (by decide) rfl ?_
    refine G_goto (tgt := 91) d_X2_joinGroup_127 rfl ?_
    refine G_sub (L' := [(0, .ref r0), (1, .ref r1), (3, .int (nI i3)), (4, .int (nI (i4 + 1)))]) [1, 2, 3, 0] rfl ?_
    exact (h c0)
theorem b_X2_joinGroup_143 {X : cX} {d : Nat} {μ : mM} {K : Option Value → mM → Prop}  (hK : K none μ) : G X (Rm (d + 1)) mX2_joinGroup 143 [] [] μ 0 0 K := by
  exact G_vret rfl rfl rfl d_X2_joinGroup_143 hK
theorem d_X2_mergeNexts_0 : decode cX2_mergeNexts 0 = .ok (.iconst 0, 1) := by decide +kernel
theorem d_X2_mergeNexts_1 : decode cX2_mergeNexts 1 = .ok (.istore_n 2, 1) := by decide +kernel
theorem d_X2_mergeNexts_2 : decode cX2_mergeNexts 2 = .ok (.iload_n 2, 1) := by decide +kernel
theorem d_X2_mergeNexts_3 : decode cX2_mergeNexts 3 = .ok (.aload_n 0, 1) := by decide +kernel
theorem d_X2_mergeNexts_4 : decode cX2_mergeNexts 4 = .ok (.getfield 12, 3) := by decide +kernel
theorem d_X2_mergeNexts_7 : decode cX2_mergeNexts 7 = .ok (.getfield 28, 3) := by decide +kernel
theorem d_X2_mergeNexts_10 : decode cX2_mergeNexts 10 = .ok (.if_icmp .ge 40, 3) := by decide +kernel
theorem d_X2_mergeNexts_13 : decode cX2_mergeNexts 13 = .ok (.iconst 0, 1) := by decide +kernel
theorem d_X2_mergeNexts_14 : decode cX2_mergeNexts 14 = .ok (.istore_n 3, 1) := by decide +kernel
theorem d_X2_mergeNexts_15 : decode cX2_mergeNexts 15 = .ok (.iload_n 3, 1) := by decide +kernel
theorem d_X2_mergeNexts_16 : decode cX2_mergeNexts 16 = .ok (.aload_n 0, 1) := by decide +kernel
theorem d_X2_mergeNexts_17 : decode cX2_mergeNexts 17 = .ok (.getfield 12, 3) := by decide +kernel
theorem d_X2_mergeNexts_20 : decode cX2_mergeNexts 20 = .ok (.getfield 28, 3) := by decide +kernel
theorem d_X2_mergeNexts_23 : decode cX2_mergeNexts 23 = .ok (.if_icmp .ge 21, 3) := by decide +kernel
theorem d_X2_mergeNexts_26 : decode cX2_mergeNexts 26 = .ok (.aload_n 0, 1) := by decide +kernel
theorem d_X2_mergeNexts_27 : decode cX2_mergeNexts 27 = .ok (.getfield 12, 3) := by decide +kernel
theorem d_X2_mergeNexts_30 : decode cX2_mergeNexts 30 = .ok (.getfield 62, 3) := by decide +kernel
theorem d_X2_mergeNexts_33 : decode cX2_mergeNexts 33 = .ok (.iload_n 2, 1) := by decide +kernel
theorem d_X2_mergeNexts_34 : decode cX2_mergeNexts 34 = .ok (.aaload, 1) := by decide +kernel
theorem d_X2_mergeNexts_35 : decode cX2_mergeNexts 35 = .ok (.iload_n 3, 1) := by decide +kernel
theorem d_X2_mergeNexts_36 : decode cX2_mergeNexts 36 = .ok (.iconst (-1), 1) := by decide +kernel
theorem d_X2_mergeNexts_37 : decode cX2_mergeNexts 37 = .ok (.iastore, 1) := by decide +kernel
theorem d_X2_mergeNexts_38 : decode cX2_mergeNexts 38 = .ok (.iinc 3 1, 3) := by decide +kernel
theorem d_X2_mergeNexts_41 : decode cX2_mergeNexts 41 = .ok (.goto (-26), 3) := by decide +kernel
theorem d_X2_mergeNexts_44 : decode cX2_mergeNexts 44 = .ok (.iinc 2 1, 3) := by decide +kernel
theorem d_X2_mergeNexts_47 : decode cX2_mergeNexts 47 = .ok (.goto (-45), 3) := by decide +kernel
theorem d_X2_mergeNexts_50 : decode cX2_mergeNexts 50 = .ok (.iconst 0, 1) := by decide +kernel
theorem d_X2_mergeNexts_51 : decode cX2_mergeNexts 51 = .ok (.istore_n 2, 1) := by decide +kernel
theorem d_X2_mergeNexts_52 : decode cX2_mergeNexts 52 = .ok (.iload_n 2, 1) := by decide +kernel
theorem d_X2_mergeNexts_53 : decode cX2_mergeNexts 53 = .ok (.aload_n 1, 1) := by decide +kernel
theorem d_X2_mergeNexts_54 : decode cX2_mergeNexts 54 = .ok (.getfield 28, 3) := by decide +kernel
theorem d_X2_mergeNexts_57 : decode cX2_mergeNexts 57 = .ok (.if_icmp .ge 98, 3) := by decide +kernel
theorem d_X2_mergeNexts_60 : decode cX2_mergeNexts 60 = .ok (.iconst 0, 1) := by decide +kernel
theorem d_X2_mergeNexts_61 : decode cX2_mergeNexts 61 = .ok (.istore_n 3, 1) := by decide +kernel
theorem d_X2_mergeNexts_62 : decode cX2_mergeNexts 62 = .ok (.iload_n 3, 1) := by decide +kernel
theorem d_X2_mergeNexts_63 : decode cX2_mergeNexts 63 = .ok (.aload_n 1, 1) := by decide +kernel
theorem d_X2_mergeNexts_64 : decode cX2_mergeNexts 64 = .ok (.getfield 28, 3) := by decide +kernel
theorem d_X2_mergeNexts_67 : decode cX2_mergeNexts 67 = .ok (.if_icmp .ge 82, 3) := by decide +kernel
theorem d_X2_mergeNexts_70 : decode cX2_mergeNexts 70 = .ok (.aload_n 0, 1) := by decide +kernel
theorem d_X2_mergeNexts_71 : decode cX2_mergeNexts 71 = .ok (.getfield 12, 3) := by decide +kernel
theorem d_X2_mergeNexts_74 : decode cX2_mergeNexts 74 = .ok (.getfield 62, 3) := by decide +kernel
theorem d_X2_mergeNexts_77 : decode cX2_mergeNexts 77 = .ok (.aload_n 0, 1) := by decide +kernel
theorem d_X2_mergeNexts_78 : decode cX2_mergeNexts 78 = .ok (.getfield 18, 3) := by decide +kernel
theorem d_X2_mergeNexts_81 : decode cX2_mergeNexts 81 = .ok (.iload_n 2, 1) := by decide +kernel
theorem d_X2_mergeNexts_82 : decode cX2_mergeNexts 82 = .ok (.iaload, 1) := by decide +kernel
theorem d_X2_mergeNexts_83 : decode cX2_mergeNexts 83 = .ok (.aaload, 1) := by decide +kernel
theorem d_X2_mergeNexts_84 : decode cX2_mergeNexts 84 = .ok (.aload_n 0, 1) := by decide +kernel
theorem d_X2_mergeNexts_85 : decode cX2_mergeNexts 85 = .ok (.getfield 18, 3) := by decide +kernel
theorem d_X2_mergeNexts_88 : decode cX2_mergeNexts 88 = .ok (.iload_n 3, 1) := by decide +kernel
theorem d_X2_mergeNexts_89 : decode cX2_mergeNexts 89 = .ok (.iaload, 1) := by decide +kernel
theorem d_X2_mergeNexts_90 : decode cX2_mergeNexts 90 = .ok (.iaload, 1) := by decide +kernel
theorem d_X2_mergeNexts_91 : decode cX2_mergeNexts 91 = .ok (.istore 4, 2) := by decide +kernel
theorem d_X2_mergeNexts_93 : decode cX2_mergeNexts 93 = .ok (.aload_n 1, 1) := by decide +kernel
theorem d_X2_mergeNexts_94 : decode cX2_mergeNexts 94 = .ok (.getfield 62, 3) := by decide +kernel
theorem d_X2_mergeNexts_97 : decode cX2_mergeNexts 97 = .ok (.iload_n 2, 1) := by decide +kernel
theorem d_X2_mergeNexts_98 : decode cX2_mergeNexts 98 = .ok (.aaload, 1) := by decide +kernel
theorem d_X2_mergeNexts_99 : decode cX2_mergeNexts 99 = .ok (.iload_n 3, 1) := by decide +kernel
theorem d_X2_mergeNexts_100 : decode cX2_mergeNexts 100 = .ok (.iaload, 1) := by decide +kernel
theorem d_X2_mergeNexts_101 : decode cX2_mergeNexts 101 = .ok (.istore 5, 2) := by decide +kernel
theorem d_X2_mergeNexts_103 : decode cX2_mergeNexts 103 = .ok (.aload_n 0, 1) := by decide +kernel
theorem d_X2_mergeNexts_104 : decode cX2_mergeNexts 104 = .ok (.getfield 12, 3) := by decide +kernel
theorem d_X2_mergeNexts_107 : decode cX2_mergeNexts 107 = .ok (.getfield 62, 3) := by decide +kernel
theorem d_X2_mergeNexts_110 : decode cX2_mergeNexts 110 = .ok (.aload_n 0, 1) := by decide +kernel
theorem d_X2_mergeNexts_111 : decode cX2_mergeNexts 111 = .ok (.getfield 18, 3) := by decide +kernel
theorem d_X2_mergeNexts_114 : decode cX2_mergeNexts 114 = .ok (.iload_n 2, 1) := by decide +kernel
theorem d_X2_mergeNexts_115 : decode cX2_mergeNexts 115 = .ok (.iaload, 1) := by decide +kernel
theorem d_X2_mergeNexts_116 : decode cX2_mergeNexts 116 = .ok (.aaload, 1) := by decide +kernel
theorem d_X2_mergeNexts_117 : decode cX2_mergeNexts 117 = .ok (.aload_n 0, 1) := by decide +kernel
theorem d_X2_mergeNexts_118 : decode cX2_mergeNexts 118 = .ok (.getfield 18, 3) := by decide +kernel
theorem d_X2_mergeNexts_121 : decode cX2_mergeNexts 121 = .ok (.iload_n 3, 1) := by decide +kernel
theorem d_X2_mergeNexts_122 : decode cX2_mergeNexts 122 = .ok (.iaload, 1) := by decide +kernel
theorem d_X2_mergeNexts_123 : decode cX2_mergeNexts 123 = .ok (.iload 4, 2) := by decide +kernel
theorem d_X2_mergeNexts_125 : decode cX2_mergeNexts 125 = .ok (.iconst (-1), 1) := by decide +kernel
theorem d_X2_mergeNexts_126 : decode cX2_mergeNexts 126 = .ok (.if_icmp .eq 10, 3) := by decide +kernel
theorem d_X2_mergeNexts_129 : decode cX2_mergeNexts 129 = .ok (.iload 4, 2) := by decide +kernel
theorem d_X2_mergeNexts_131 : decode cX2_mergeNexts 131 = .ok (.iload 5, 2) := by decide +kernel
theorem d_X2_mergeNexts_133 : decode cX2_mergeNexts 133 = .ok (.if_icmp .ne 8, 3) := by decide +kernel
theorem d_X2_mergeNexts_136 : decode cX2_mergeNexts 136 = .ok (.iload 5, 2) := by decide +kernel
theorem d_X2_mergeNexts_138 : decode cX2_mergeNexts 138 = .ok (.goto 4, 3) := by decide +kernel
theorem d_X2_mergeNexts_141 : decode cX2_mergeNexts 141 = .ok (.iconst 1, 1) := by decide +kernel
theorem d_X2_mergeNexts_142 : decode cX2_mergeNexts 142 = .ok (.iastore, 1) := by decide +kernel
theorem d_X2_mergeNexts_143 : decode cX2_mergeNexts 143 = .ok (.iinc 3 1, 3) := by decide +kernel
theorem d_X2_mergeNexts_146 : decode cX2_mergeNexts 146 = .ok (.goto (-84), 3) := by decide +kernel
theorem d_X2_mergeNexts_149 : decode cX2_mergeNexts 149 = .ok (.iinc 2 1, 3) := by decide +kernel
theorem d_X2_mergeNexts_152 : decode cX2_mergeNexts 152 = .ok (.goto (-100), 3) := by decide +kernel
theorem d_X2_mergeNexts_155 : decode cX2_mergeNexts 155 = .ok (.return_, 1) := by decide +kernel
theorem b_X2_mergeNexts_0 {X : cX} {d : Nat} {μ : mM} {K : Option Value → mM → Prop} {r0 : Nat} {r1 : Nat} (h : G X (Rm d) mX2_mergeNexts 2 [(0, .ref r0), (1, .ref r1), (2, .int (nI 0))] [] μ 0 0 K) : G X (Rm d) mX2_mergeNexts 0 [(0, .ref r0), (1, .ref r1)] [] μ 0 0 K := by
  refine G_iconst d_X2_mergeNexts_0 ic_0 ?_
  refine G_istore_n (L' := [(2, .int (nI 0)), (0, .ref r0), (1, .ref r1)]) d_X2_mergeNexts_1 rfl (by decide) rfl ?_
  refine G_sub (L' := [(0, .ref r0), (1, .ref r1), (2, .int (nI 0))]) [1, 2, 0] rfl ?_
  exact h
theorem b_X2_mergeNexts_2 {X : cX} {d : Nat} {μ : mM} {K : Option Value → mM → Prop} {r0 : Nat} {r1 : Nat} {l2 : Int32} (hw2_r0 : WF2 μ r0) (hw5_r01 : WF5 μ (r0 + 1)) (h : (iv μ (r0 + 1) 0) ≤ l2 → G X (Rm d) mX2_mergeNexts 52 [(0, .ref r0), (1, .ref r1), (2, .int (nI 0))] [] μ 0 0 K) (h_2 : ¬ (iv μ (r0 + 1) 0) ≤ l2 → G X (Rm d) mX2_mergeNexts 15 [(0, .ref r0), (1, .ref r1), (2, .int l2), (3, .int (nI 0))] [] μ 0 0 K) : G X (Rm d) mX2_mergeNexts 2 [(0, .ref r0), (1, .ref r1), (2, .int l2)] [] μ 0 0 K := by
  refine G_iload_n d_X2_mergeNexts_2 rfl 2 rfl ?_
  refine G_aload_n d_X2_mergeNexts_3 rfl 0 rfl ?_
  refine G_getR (r := r0 + 1) 2 0 (w2_kd hw2_r0) (w2_f0 hw2_r0) cok2 (by decide) rfl fl_X2_12 d_X2_mergeNexts_4 ?_
  refine G_getI 5 0 (w5_kd hw5_r01) cok5 (by decide) rfl fl_X2_28 d_X2_mergeNexts_7 ?_
  refine G_icmp_ge (tgt := 50) d_X2_mergeNexts_10 rfl (fun c0 => ?_) (fun c0 => ?_)
  ·
    refine G_iconst d_X2_mergeNexts_50 ic_0 ?_
    refine G_istore_n (L' := [(2, .int (nI 0)), (0, .ref r0), (1, .ref r1)]) d_X2_mergeNexts_51 rfl (by decide) rfl ?_
    refine G_sub (L' := [(0, .ref r0), (1, .ref r1), (2, .int (nI 0))]) [1, 2, 0] rfl ?_
    exact (h c0)
  ·
    refine G_iconst d_X2_mergeNexts_13 ic_0 ?_
    refine G_istore_n (L' := [(3, .int (nI 0)), (0, .ref r0), (1, .ref r1), (2, .int l2)]) d_X2_mergeNexts_14 rfl (by decide) rfl ?_
    refine G_sub (L' := [(0, .ref r0), (1, .ref r1), (2, .int l2), (3, .int (nI 0))]) [1, 2, 3, 0] rfl ?_
    exact (h_2 c0)
theorem b_X2_mergeNexts_15 {X : cX} {d : Nat} {μ : mM} {K : Option Value → mM → Prop} {r0 : Nat} {r1 : Nat} {i2 : Nat} {i3 : Nat} (hw2_r0 : WF2 μ r0) (hw5_r01 : WF5 μ (r0 + 1)) (h : (iv μ (r0 + 1) 0) ≤ (nI i3) → G X (Rm d) mX2_mergeNexts 2 [(0, .ref r0), (1, .ref r1), (2, .int (nI (i2 + 1)))] [] μ 0 0 K) (hb : ¬ (iv μ (r0 + 1) 0) ≤ (nI i3) → i2 < 6) (hb_2 : ¬ (iv μ (r0 + 1) 0) ≤ (nI i3) → i3 < 6) (h_2 : ¬ (iv μ (r0 + 1) 0) ≤ (nI i3) → G X (Rm d) mX2_mergeNexts 15 [(0, .ref r0), (1, .ref r1), (2, .int (nI i2)), (3, .int (nI (i3 + 1)))] [] (wi μ (r0 + 1 + 7 + i2) i3 (-1)) 0 0 K) : G X (Rm d) mX2_mergeNexts 15 [(0, .ref r0), (1, .ref r1), (2, .int (nI i2)), (3, .int (nI i3))] [] μ 0 0 K := by
  refine G_iload_n d_X2_mergeNexts_15 rfl 3 rfl ?_
  refine G_aload_n d_X2_mergeNexts_16 rfl 0 rfl ?_
  refine G_getR (r := r0 + 1) 2 0 (w2_kd hw2_r0) (w2_f0 hw2_r0) cok2 (by decide) rfl fl_X2_12 d_X2_mergeNexts_17 ?_
  refine G_getI 5 0 (w5_kd hw5_r01) cok5 (by decide) rfl fl_X2_28 d_X2_mergeNexts_20 ?_
  refine G_icmp_ge (tgt := 44) d_X2_mergeNexts_23 rfl (fun c0 => ?_) (fun c0 => ?_)
  ·
    refine G_iinc (L' := [(2, .int (nI (i2 + 1))), (0, .ref r0), (1, .ref r1), (3, .int (nI i3))]) d_X2_mergeNexts_44 2 rfl (inc1 i2) (by decide) rfl ?_
    refine G_goto (tgt := 2) d_X2_mergeNexts_47 rfl ?_
    refine G_sub (L' := [(0, .ref r0), (1, .ref r1), (2, .int (nI (i2 + 1)))]) [1, 2, 0] rfl ?_
    exact (h c0)
  ·
    refine G_aload_n d_X2_mergeNexts_26 rfl 0 rfl ?_
    refine G_getR (r := r0 + 1) 2 0 (w2_kd hw2_r0) (w2_f0 hw2_r0) cok2 (by decide) rfl fl_X2_12 d_X2_mergeNexts_27 ?_
    refine G_getR (r := r0 + 1 + 6) 5 3 (w5_kd hw5_r01) (w5_f3 hw5_r01) cok5 (by decide) rfl fl_X2_62 d_X2_mergeNexts_30 ?_
    refine G_iload_n d_X2_mergeNexts_33 rfl 2 rfl ?_
    refine G_aaldA (r := r0 + 1 + 7 + i2) i2 (w5_k3 hw5_r01) rfl (hb c0) (w5_r3 hw5_r01 i2 (hb c0)) d_X2_mergeNexts_34 ?_
    refine G_iload_n d_X2_mergeNexts_35 rfl 3 rfl ?_
    refine G_iconst d_X2_mergeNexts_36 ic_m1 ?_
    refine G_iast i3 (w5_q3 hw5_r01 i2 (hb c0)) rfl (hb_2 c0) d_X2_mergeNexts_37 ?_
    refine G_iinc (L' := [(3, .int (nI (i3 + 1))), (0, .ref r0), (1, .ref r1), (2, .int (nI i2))]) d_X2_mergeNexts_38 3 rfl (inc1 i3) (by decide) rfl ?_
    refine G_goto (tgt := 15) d_X2_mergeNexts_41 rfl ?_
    refine G_sub (L' := [(0, .ref r0), (1, .ref r1), (2, .int (nI i2)), (3, .int (nI (i3 + 1)))]) [1, 2, 3, 0] rfl ?_
    exact (h_2 c0)
theorem b_X2_mergeNexts_52 {X : cX} {d : Nat} {μ : mM} {K : Option Value → mM → Prop} {r0 : Nat} {r1 : Nat} {l2 : Int32} (hw5_r1 : WF5 μ r1) (hK : (iv μ r1 0) ≤ l2 → K none μ) (h : ¬ (iv μ r1 0) ≤ l2 → G X (Rm d) mX2_mergeNexts 62 [(0, .ref r0), (1, .ref r1), (2, .int l2), (3, .int (nI 0))] [] μ 0 0 K) : G X (Rm d) mX2_mergeNexts 52 [(0, .ref r0), (1, .ref r1), (2, .int l2)] [] μ 0 0 K := by
  refine G_iload_n d_X2_mergeNexts_52 rfl 2 rfl ?_
  refine G_aload_n d_X2_mergeNexts_53 rfl 1 rfl ?_
  refine G_getI 5 0 (w5_kd hw5_r1) cok5 (by decide) rfl fl_X2_28 d_X2_mergeNexts_54 ?_
  refine G_icmp_ge (tgt := 155) d_X2_mergeNexts_57 rfl (fun c0 => ?_) (fun c0 => ?_)
  ·
    exact G_vret rfl rfl rfl d_X2_mergeNexts_155 (hK c0)
  ·
    refine G_iconst d_X2_mergeNexts_60 ic_0 ?_
    refine G_istore_n (L' := [(3, .int (nI 0)), (0, .ref r0), (1, .ref r1), (2, .int l2)]) d_X2_mergeNexts_61 rfl (by decide) rfl ?_
    refine G_sub (L' := [(0, .ref r0), (1, .ref r1), (2, .int l2), (3, .int (nI 0))]) [1, 2, 3, 0] rfl ?_
    exact (h c0)
theorem b_X2_mergeNexts_62 {X : cX} {d : Nat} {μ : mM} {K : Option Value → mM → Prop} {r0 : Nat} {r1 : Nat} {i2 : Nat} {i3 : Nat} {j0 : Nat} {j1 : Nat} (hw5_r1 : WF5 μ r1) (h : (iv μ r1 0) ≤ (nI i3) → G X (Rm d) mX2_mergeNexts 52 [(0, .ref r0), (1, .ref r1), (2, .int (nI (i2 + 1)))] [] μ 0 0 K) (hw2_r0 : WF2 μ r0) (hw5_r01 : WF5 μ (r0 + 1)) (hb : ¬ (iv μ r1 0) ≤ (nI i3) → i2 < 6) (hi_j0 : ¬ (iv μ r1 0) ≤ (nI i3) → iv μ (r0 + 25) i2 = nI j0) (hb_2 : ¬ (iv μ r1 0) ≤ (nI i3) → j0 < 6) (hb_3 : ¬ (iv μ r1 0) ≤ (nI i3) → i3 < 6) (hi_j1 : ¬ (iv μ r1 0) ≤ (nI i3) → iv μ (r0 + 25) i3 = nI j1) (hb_4 : ¬ (iv μ r1 0) ≤ (nI i3) → j1 < 6) (h_2 : ¬ (iv μ r1 0) ≤ (nI i3) → (iv μ (r0 + 1 + 7 + j0) j1) = ((-1) : Int32) → G X (Rm d) mX2_mergeNexts 136 [(0, .ref r0), (1, .ref r1), (2, .int (nI i2)), (3, .int (nI i3)), (5, .int (iv μ (r1 + 7 + i2) i3))] [.int (iv μ (r0 + 25) i3), .ref (r0 + 1 + 7 + j0)] μ 0 0 K) (h_3 : ¬ (iv μ r1 0) ≤ (nI i3) → ¬ (iv μ (r0 + 1 + 7 + j0) j1) = ((-1) : Int32) → ¬ (iv μ (r0 + 1 + 7 + j0) j1) = (iv μ (r1 + 7 + i2) i3) → G X (Rm d) mX2_mergeNexts 142 [(0, .ref r0), (1, .ref r1), (2, .int (nI i2)), (3, .int (nI i3))] [.int 1, .int (iv μ (r0 + 25) i3), .ref (r0 + 1 + 7 + j0)] μ 0 0 K) (h_4 : ¬ (iv μ r1 0) ≤ (nI i3) → ¬ (iv μ (r0 + 1 + 7 + j0) j1) = ((-1) : Int32) → (iv μ (r0 + 1 + 7 + j0) j1) = (iv μ (r1 + 7 + i2) i3) → G X (Rm d) mX2_mergeNexts 136 [(0, .ref r0), (1, .ref r1), (2, .int (nI i2)), (3, .int (nI i3)), (5, .int (iv μ (r1 + 7 + i2) i3))] [.int (iv μ (r0 + 25) i3), .ref (r0 + 1 + 7 + j0)] μ 0 0 K) : G X (Rm d) mX2_mergeNexts 62 [(0, .ref r0), (1, .ref r1), (2, .int (nI i2)), (3, .int (nI i3))] [] μ 0 0 K := by
  refine G_iload_n d_X2_mergeNexts_62 rfl 3 rfl ?_
  refine G_aload_n d_X2_mergeNexts_63 rfl 1 rfl ?_
  refine G_getI 5 0 (w5_kd hw5_r1) cok5 (by decide) rfl fl_X2_28 d_X2_mergeNexts_64 ?_
  refine G_icmp_ge (tgt := 149) d_X2_mergeNexts_67 rfl (fun c0 => ?_) (fun c0 => ?_)
  ·
    refine G_iinc (L' := [(2, .int (nI (i2 + 1))), (0, .ref r0), (1, .ref r1), (3, .int (nI i3))]) d_X2_mergeNexts_149 2 rfl (inc1 i2) (by decide) rfl ?_
    refine G_goto (tgt := 52) d_X2_mergeNexts_152 rfl ?_
    refine G_sub (L' := [(0, .ref r0), (1, .ref r1), (2, .int (nI (i2 + 1)))]) [1, 2, 0] rfl ?_
    exact (h c0)
  ·
    refine G_aload_n d_X2_mergeNexts_70 rfl 0 rfl ?_
    refine G_getR (r := r0 + 1) 2 0 (w2_kd hw2_r0) (w2_f0 hw2_r0) cok2 (by decide) rfl fl_X2_12 d_X2_mergeNexts_71 ?_
    refine G_getR (r := r0 + 1 + 6) 5 3 (w5_kd hw5_r01) (w5_f3 hw5_r01) cok5 (by decide) rfl fl_X2_62 d_X2_mergeNexts_74 ?_
    refine G_aload_n d_X2_mergeNexts_77 rfl 0 rfl ?_
    refine G_getR (r := r0 + 25) 2 1 (w2_kd hw2_r0) (w2_f1 hw2_r0) cok2 (by decide) rfl fl_X2_18 d_X2_mergeNexts_78 ?_
    refine G_iload_n d_X2_mergeNexts_81 rfl 2 rfl ?_
    refine G_iald i2 (w2_k1 hw2_r0) rfl (hb c0) d_X2_mergeNexts_82 ?_
    refine G_aaldA (r := r0 + 1 + 7 + j0) j0 (w5_k3 hw5_r01) (hi_j0 c0) (hb_2 c0) (w5_r3 hw5_r01 j0 (hb_2 c0)) d_X2_mergeNexts_83 ?_
    refine G_aload_n d_X2_mergeNexts_84 rfl 0 rfl ?_
    refine G_getR (r := r0 + 25) 2 1 (w2_kd hw2_r0) (w2_f1 hw2_r0) cok2 (by decide) rfl fl_X2_18 d_X2_mergeNexts_85 ?_
    refine G_iload_n d_X2_mergeNexts_88 rfl 3 rfl ?_
    refine G_iald i3 (w2_k1 hw2_r0) rfl (hb_3 c0) d_X2_mergeNexts_89 ?_
    refine G_iald j1 (w5_q3 hw5_r01 j0 (hb_2 c0)) (hi_j1 c0) (hb_4 c0) d_X2_mergeNexts_90 ?_
    refine G_istore (L' := [(4, .int (iv μ (r0 + 1 + 7 + j0) j1)), (0, .ref r0), (1, .ref r1), (2, .int (nI i2)), (3, .int (nI i3))]) d_X2_mergeNexts_91 (by decide) rfl ?_
    refine G_aload_n d_X2_mergeNexts_93 rfl 2 rfl ?_
    refine G_getR (r := r1 + 6) 5 3 (w5_kd hw5_r1) (w5_f3 hw5_r1) cok5 (by decide) rfl fl_X2_62 d_X2_mergeNexts_94 ?_
    refine G_iload_n d_X2_mergeNexts_97 rfl 3 rfl ?_
    refine G_aaldA (r := r1 + 7 + i2) i2 (w5_k3 hw5_r1) rfl (hb c0) (w5_r3 hw5_r1 i2 (hb c0)) d_X2_mergeNexts_98 ?_
    refine G_iload_n d_X2_mergeNexts_99 rfl 4 rfl ?_
    refine G_iald i3 (w5_q3 hw5_r1 i2 (hb c0)) rfl (hb_3 c0) d_X2_mergeNexts_100 ?_
    refine G_istore (L' := [(5, .int (iv μ (r1 + 7 + i2) i3)), (4, .int (iv μ (r0 + 1 + 7 + j0) j1)), (0, .ref r0), (1, .ref r1), (2, .int (nI i2)), (3, .int (nI i3))]) d_X2_mergeNexts_101 (by decide) rfl ?_
    refine G_aload_n d_X2_mergeNexts_103 rfl 2 rfl ?_
    refine G_getR (r := r0 + 1) 2 0 (w2_kd hw2_r0) (w2_f0 hw2_r0) cok2 (by decide) rfl fl_X2_12 d_X2_mergeNexts_104 ?_
    refine G_getR (r := r0 + 1 + 6) 5 3 (w5_kd hw5_r01) (w5_f3 hw5_r01) cok5 (by decide) rfl fl_X2_62 d_X2_mergeNexts_107 ?_
    refine G_aload_n d_X2_mergeNexts_110 rfl 2 rfl ?_
    refine G_getR (r := r0 + 25) 2 1 (w2_kd hw2_r0) (w2_f1 hw2_r0) cok2 (by decide) rfl fl_X2_18 d_X2_mergeNexts_111 ?_
    refine G_iload_n d_X2_mergeNexts_114 rfl 4 rfl ?_
    refine G_iald i2 (w2_k1 hw2_r0) rfl (hb c0) d_X2_mergeNexts_115 ?_
    refine G_aaldA (r := r0 + 1 + 7 + j0) j0 (w5_k3 hw5_r01) (hi_j0 c0) (hb_2 c0) (w5_r3 hw5_r01 j0 (hb_2 c0)) d_X2_mergeNexts_116 ?_
    refine G_aload_n d_X2_mergeNexts_117 rfl 2 rfl ?_
    refine G_getR (r := r0 + 25) 2 1 (w2_kd hw2_r0) (w2_f1 hw2_r0) cok2 (by decide) rfl fl_X2_18 d_X2_mergeNexts_118 ?_
    refine G_iload_n d_X2_mergeNexts_121 rfl 5 rfl ?_
    refine G_iald i3 (w2_k1 hw2_r0) rfl (hb_3 c0) d_X2_mergeNexts_122 ?_
    refine G_iload d_X2_mergeNexts_123 1 rfl ?_
    refine G_iconst d_X2_mergeNexts_125 ic_m1 ?_
    refine G_icmp_eq (tgt := 136) d_X2_mergeNexts_126 rfl (fun c1 => ?_) (fun c1 => ?_)
    ·
      refine G_sub (L' := [(0, .ref r0), (1, .ref r1), (2, .int (nI i2)), (3, .int (nI i3)), (5, .int (iv μ (r1 + 7 + i2) i3))]) [2, 3, 4, 5, 0] rfl ?_
      exact (h_2 c0 c1)
    ·
      refine G_iload d_X2_mergeNexts_129 1 rfl ?_
      refine G_iload d_X2_mergeNexts_131 0 rfl ?_
      refine G_icmp_ne (tgt := 141) d_X2_mergeNexts_133 rfl (fun c2 => ?_) (fun c2 => ?_)
      ·
        refine G_iconst d_X2_mergeNexts_141 ic_1 ?_
        refine G_sub (L' := [(0, .ref r0), (1, .ref r1), (2, .int (nI i2)), (3, .int (nI i3))]) [2, 3, 4, 5] rfl ?_
        exact (h_3 c0 c1 c2)
      ·
        refine G_sub (L' := [(0, .ref r0), (1, .ref r1), (2, .int (nI i2)), (3, .int (nI i3)), (5, .int (iv μ (r1 + 7 + i2) i3))]) [2, 3, 4, 5, 0] rfl ?_
        exact (h_4 c0 c1 c2)
theorem b_X2_mergeNexts_136 {X : cX} {d : Nat} {μ : mM} {K : Option Value → mM → Prop} {r0 : Nat} {r1 : Nat} {l2 : Int32} {l3 : Int32} {l5 : Int32} {q0 : Nat} {v1 : Int32} (h : G X (Rm d) mX2_mergeNexts 142 [(0, .ref r0), (1, .ref r1), (2, .int l2), (3, .int l3)] [.int l5, .int v1, .ref q0] μ 0 0 K) : G X (Rm d) mX2_mergeNexts 136 [(0, .ref r0), (1, .ref r1), (2, .int l2), (3, .int l3), (5, .int l5)] [.int v1, .ref q0] μ 0 0 K := by
  refine G_iload d_X2_mergeNexts_136 4 rfl ?_
  refine G_goto (tgt := 142) d_X2_mergeNexts_138 rfl ?_
  refine G_sub (L' := [(0, .ref r0), (1, .ref r1), (2, .int l2), (3, .int l3)]) [0, 1, 2, 3] rfl ?_
  exact h
theorem b_X2_mergeNexts_142 {X : cX} {d : Nat} {μ : mM} {K : Option Value → mM → Prop} {r0 : Nat} {r1 : Nat} {l2 : Int32} {i3 : Nat} {q0 : Nat} {v1 : Int32} {v2 : Int32} {n0 : Nat} {j0 : Nat} (hk_q0 : kd μ q0 = (1, n0)) (hi_j0 : v1 = nI j0) (hb : j0 < n0) (h : G X (Rm d) mX2_mergeNexts 62 [(0, .ref r0), (1, .ref r1), (2, .int l2), (3, .int (nI (i3 + 1)))] [] (wi μ q0 j0 v2) 0 0 K) : G X (Rm d) mX2_mergeNexts 142 [(0, .ref r0), (1, .ref r1), (2, .int l2), (3, .int (nI i3))] [.int v2, .int v1, .ref q0] μ 0 0 K := by
  refine G_iast j0 hk_q0 hi_j0 hb d_X2_mergeNexts_142 ?_
  refine G_iinc (L' := [(3, .int (nI (i3 + 1))), (0, .ref r0), (1, .ref r1), (2, .int l2)]) d_X2_mergeNexts_143 3 rfl (inc1 i3) (by decide) rfl ?_
  refine G_goto (tgt := 62) d_X2_mergeNexts_146 rfl ?_
  refine G_sub (L' := [(0, .ref r0), (1, .ref r1), (2, .int l2), (3, .int (nI (i3 + 1)))]) [1, 2, 3, 0] rfl ?_
  exact h
