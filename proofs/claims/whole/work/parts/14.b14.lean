theorem d_X12_itemsOf_0 : decode cX12_itemsOf 0 = .ok (.iconst 0, 1) := by decide +kernel
theorem d_X12_itemsOf_1 : decode cX12_itemsOf 1 = .ok (.istore_n 2, 1) := by decide +kernel
theorem d_X12_itemsOf_2 : decode cX12_itemsOf 2 = .ok (.iconst 0, 1) := by decide +kernel
theorem d_X12_itemsOf_3 : decode cX12_itemsOf 3 = .ok (.istore_n 3, 1) := by decide +kernel
theorem d_X12_itemsOf_4 : decode cX12_itemsOf 4 = .ok (.iload_n 3, 1) := by decide +kernel
theorem d_X12_itemsOf_5 : decode cX12_itemsOf 5 = .ok (.aload_n 0, 1) := by decide +kernel
theorem d_X12_itemsOf_6 : decode cX12_itemsOf 6 = .ok (.getfield 13, 3) := by decide +kernel
theorem d_X12_itemsOf_9 : decode cX12_itemsOf 9 = .ok (.iload_n 1, 1) := by decide +kernel
theorem d_X12_itemsOf_10 : decode cX12_itemsOf 10 = .ok (.iconst 2, 1) := by decide +kernel
theorem d_X12_itemsOf_11 : decode cX12_itemsOf 11 = .ok (.iadd, 1) := by decide +kernel
theorem d_X12_itemsOf_12 : decode cX12_itemsOf 12 = .ok (.iaload, 1) := by decide +kernel
theorem d_X12_itemsOf_13 : decode cX12_itemsOf 13 = .ok (.if_icmp .ge 134, 3) := by decide +kernel
theorem d_X12_itemsOf_16 : decode cX12_itemsOf 16 = .ok (.iload_n 1, 1) := by decide +kernel
theorem d_X12_itemsOf_17 : decode cX12_itemsOf 17 = .ok (.bipush 8, 2) := by decide +kernel
theorem d_X12_itemsOf_19 : decode cX12_itemsOf 19 = .ok (.iadd, 1) := by decide +kernel
theorem d_X12_itemsOf_20 : decode cX12_itemsOf 20 = .ok (.iconst 3, 1) := by decide +kernel
theorem d_X12_itemsOf_21 : decode cX12_itemsOf 21 = .ok (.iload_n 3, 1) := by decide +kernel
theorem d_X12_itemsOf_22 : decode cX12_itemsOf 22 = .ok (.imul, 1) := by decide +kernel
theorem d_X12_itemsOf_23 : decode cX12_itemsOf 23 = .ok (.iadd, 1) := by decide +kernel
theorem d_X12_itemsOf_24 : decode cX12_itemsOf 24 = .ok (.istore 4, 2) := by decide +kernel
theorem d_X12_itemsOf_26 : decode cX12_itemsOf 26 = .ok (.aload_n 0, 1) := by decide +kernel
theorem d_X12_itemsOf_27 : decode cX12_itemsOf 27 = .ok (.getfield 13, 3) := by decide +kernel
theorem d_X12_itemsOf_30 : decode cX12_itemsOf 30 = .ok (.iload 4, 2) := by decide +kernel
theorem d_X12_itemsOf_32 : decode cX12_itemsOf 32 = .ok (.iaload, 1) := by decide +kernel
theorem d_X12_itemsOf_33 : decode cX12_itemsOf 33 = .ok (.istore 5, 2) := by decide +kernel
theorem d_X12_itemsOf_35 : decode cX12_itemsOf 35 = .ok (.iload 5, 2) := by decide +kernel
theorem d_X12_itemsOf_37 : decode cX12_itemsOf 37 = .ok (.iconst 5, 1) := by decide +kernel
theorem d_X12_itemsOf_38 : decode cX12_itemsOf 38 = .ok (.if_icmp .ge 21, 3) := by decide +kernel
theorem d_X12_itemsOf_41 : decode cX12_itemsOf 41 = .ok (.aload_n 0, 1) := by decide +kernel
theorem d_X12_itemsOf_42 : decode cX12_itemsOf 42 = .ok (.getfield 34, 3) := by decide +kernel
theorem d_X12_itemsOf_45 : decode cX12_itemsOf 45 = .ok (.iload_n 2, 1) := by decide +kernel
theorem d_X12_itemsOf_46 : decode cX12_itemsOf 46 = .ok (.aload_n 0, 1) := by decide +kernel
theorem d_X12_itemsOf_47 : decode cX12_itemsOf 47 = .ok (.iload 4, 2) := by decide +kernel
theorem d_X12_itemsOf_49 : decode cX12_itemsOf 49 = .ok (.invokevirtual 213, 3) := by decide +kernel
theorem d_X12_itemsOf_52 : decode cX12_itemsOf 52 = .ok (.iastore, 1) := by decide +kernel
theorem d_X12_itemsOf_53 : decode cX12_itemsOf 53 = .ok (.iinc 2 1, 3) := by decide +kernel
theorem d_X12_itemsOf_56 : decode cX12_itemsOf 56 = .ok (.goto 85, 3) := by decide +kernel
theorem d_X12_itemsOf_59 : decode cX12_itemsOf 59 = .ok (.iload 5, 2) := by decide +kernel
theorem d_X12_itemsOf_61 : decode cX12_itemsOf 61 = .ok (.iconst 5, 1) := by decide +kernel
theorem d_X12_itemsOf_62 : decode cX12_itemsOf 62 = .ok (.if_icmp .ne 24, 3) := by decide +kernel
theorem d_X12_itemsOf_65 : decode cX12_itemsOf 65 = .ok (.aload_n 0, 1) := by decide +kernel
theorem d_X12_itemsOf_66 : decode cX12_itemsOf 66 = .ok (.getfield 34, 3) := by decide +kernel
theorem d_X12_itemsOf_69 : decode cX12_itemsOf 69 = .ok (.iload_n 2, 1) := by decide +kernel
theorem d_X12_itemsOf_70 : decode cX12_itemsOf 70 = .ok (.iconst 1, 1) := by decide +kernel
theorem d_X12_itemsOf_71 : decode cX12_itemsOf 71 = .ok (.isub, 1) := by decide +kernel
theorem d_X12_itemsOf_72 : decode cX12_itemsOf 72 = .ok (.iconst 2, 1) := by decide +kernel
theorem d_X12_itemsOf_73 : decode cX12_itemsOf 73 = .ok (.aload_n 0, 1) := by decide +kernel
theorem d_X12_itemsOf_74 : decode cX12_itemsOf 74 = .ok (.getfield 34, 3) := by decide +kernel
theorem d_X12_itemsOf_77 : decode cX12_itemsOf 77 = .ok (.iload_n 2, 1) := by decide +kernel
theorem d_X12_itemsOf_78 : decode cX12_itemsOf 78 = .ok (.iconst 1, 1) := by decide +kernel
theorem d_X12_itemsOf_79 : decode cX12_itemsOf 79 = .ok (.isub, 1) := by decide +kernel
theorem d_X12_itemsOf_80 : decode cX12_itemsOf 80 = .ok (.iaload, 1) := by decide +kernel
theorem d_X12_itemsOf_81 : decode cX12_itemsOf 81 = .ok (.isub, 1) := by decide +kernel
theorem d_X12_itemsOf_82 : decode cX12_itemsOf 82 = .ok (.iastore, 1) := by decide +kernel
theorem d_X12_itemsOf_83 : decode cX12_itemsOf 83 = .ok (.goto 58, 3) := by decide +kernel
theorem d_X12_itemsOf_86 : decode cX12_itemsOf 86 = .ok (.iinc 2 (-1), 3) := by decide +kernel
theorem d_X12_itemsOf_89 : decode cX12_itemsOf 89 = .ok (.aload_n 0, 1) := by decide +kernel
theorem d_X12_itemsOf_90 : decode cX12_itemsOf 90 = .ok (.getfield 34, 3) := by decide +kernel
theorem d_X12_itemsOf_93 : decode cX12_itemsOf 93 = .ok (.iload_n 2, 1) := by decide +kernel
theorem d_X12_itemsOf_94 : decode cX12_itemsOf 94 = .ok (.iconst 1, 1) := by decide +kernel
theorem d_X12_itemsOf_95 : decode cX12_itemsOf 95 = .ok (.isub, 1) := by decide +kernel
theorem d_X12_itemsOf_96 : decode cX12_itemsOf 96 = .ok (.iload 5, 2) := by decide +kernel
theorem d_X12_itemsOf_98 : decode cX12_itemsOf 98 = .ok (.bipush 6, 2) := by decide +kernel
theorem d_X12_itemsOf_100 : decode cX12_itemsOf 100 = .ok (.if_icmp .ne 23, 3) := by decide +kernel
theorem d_X12_itemsOf_103 : decode cX12_itemsOf 103 = .ok (.aload_n 0, 1) := by decide +kernel
theorem d_X12_itemsOf_104 : decode cX12_itemsOf 104 = .ok (.getfield 34, 3) := by decide +kernel
theorem d_X12_itemsOf_107 : decode cX12_itemsOf 107 = .ok (.iload_n 2, 1) := by decide +kernel
theorem d_X12_itemsOf_108 : decode cX12_itemsOf 108 = .ok (.iconst 1, 1) := by decide +kernel
theorem d_X12_itemsOf_109 : decode cX12_itemsOf 109 = .ok (.isub, 1) := by decide +kernel
theorem d_X12_itemsOf_110 : decode cX12_itemsOf 110 = .ok (.iaload, 1) := by decide +kernel
theorem d_X12_itemsOf_111 : decode cX12_itemsOf 111 = .ok (.aload_n 0, 1) := by decide +kernel
theorem d_X12_itemsOf_112 : decode cX12_itemsOf 112 = .ok (.getfield 34, 3) := by decide +kernel
theorem d_X12_itemsOf_115 : decode cX12_itemsOf 115 = .ok (.iload_n 2, 1) := by decide +kernel
theorem d_X12_itemsOf_116 : decode cX12_itemsOf 116 = .ok (.iaload, 1) := by decide +kernel
theorem d_X12_itemsOf_117 : decode cX12_itemsOf 117 = .ok (.invokestatic 172, 3) := by decide +kernel
theorem d_X12_itemsOf_120 : decode cX12_itemsOf 120 = .ok (.goto 20, 3) := by decide +kernel
theorem d_X12_itemsOf_123 : decode cX12_itemsOf 123 = .ok (.aload_n 0, 1) := by decide +kernel
theorem d_X12_itemsOf_124 : decode cX12_itemsOf 124 = .ok (.getfield 34, 3) := by decide +kernel
theorem d_X12_itemsOf_127 : decode cX12_itemsOf 127 = .ok (.iload_n 2, 1) := by decide +kernel
theorem d_X12_itemsOf_128 : decode cX12_itemsOf 128 = .ok (.iconst 1, 1) := by decide +kernel
theorem d_X12_itemsOf_129 : decode cX12_itemsOf 129 = .ok (.isub, 1) := by decide +kernel
theorem d_X12_itemsOf_130 : decode cX12_itemsOf 130 = .ok (.iaload, 1) := by decide +kernel
theorem d_X12_itemsOf_131 : decode cX12_itemsOf 131 = .ok (.aload_n 0, 1) := by decide +kernel
theorem d_X12_itemsOf_132 : decode cX12_itemsOf 132 = .ok (.getfield 34, 3) := by decide +kernel
theorem d_X12_itemsOf_135 : decode cX12_itemsOf 135 = .ok (.iload_n 2, 1) := by decide +kernel
theorem d_X12_itemsOf_136 : decode cX12_itemsOf 136 = .ok (.iaload, 1) := by decide +kernel
theorem d_X12_itemsOf_137 : decode cX12_itemsOf 137 = .ok (.invokestatic 175, 3) := by decide +kernel
theorem d_X12_itemsOf_140 : decode cX12_itemsOf 140 = .ok (.iastore, 1) := by decide +kernel
theorem d_X12_itemsOf_141 : decode cX12_itemsOf 141 = .ok (.iinc 3 1, 3) := by decide +kernel
theorem d_X12_itemsOf_144 : decode cX12_itemsOf 144 = .ok (.goto (-140), 3) := by decide +kernel
theorem d_X12_itemsOf_147 : decode cX12_itemsOf 147 = .ok (.aload_n 0, 1) := by decide +kernel
theorem d_X12_itemsOf_148 : decode cX12_itemsOf 148 = .ok (.getfield 34, 3) := by decide +kernel
theorem d_X12_itemsOf_151 : decode cX12_itemsOf 151 = .ok (.iconst 0, 1) := by decide +kernel
theorem d_X12_itemsOf_152 : decode cX12_itemsOf 152 = .ok (.iaload, 1) := by decide +kernel
theorem d_X12_itemsOf_153 : decode cX12_itemsOf 153 = .ok (.ireturn, 1) := by decide +kernel
theorem b_X12_itemsOf_0 {X : cX} {d : Nat} {μ : mM} {K : Option Value → mM → Prop} {r0 : Nat} {l1 : Int32} (h : G X (Rm (d + 3)) mX12_itemsOf 4 [(0, .ref r0), (1, .int l1), (2, .int 0), (3, .int (nI 0))] [] μ 0 0 K) : G X (Rm (d + 3)) mX12_itemsOf 0 [(0, .ref r0), (1, .int l1)] [] μ 0 0 K := by
  refine G_iconst d_X12_itemsOf_0 ic_0 ?_
  refine G_istore_n (L' := [(2, .int 0), (0, .ref r0), (1, .int l1)]) d_X12_itemsOf_1 rfl (by decide) rfl ?_
  refine G_iconst d_X12_itemsOf_2 ic_0 ?_
  refine G_istore_n (L' := [(3, .int (nI 0)), (2, .int 0), (0, .ref r0), (1, .int l1)]) d_X12_itemsOf_3 rfl (by decide) rfl ?_
  refine G_sub (L' := [(0, .ref r0), (1, .int l1), (2, .int 0), (3, .int (nI 0))]) [2, 3, 1, 0] rfl ?_
  exact h
theorem b_X12_itemsOf_4 {X : cX} {d : Nat} {μ : mM} {K : Option Value → mM → Prop} {r0 : Nat} {i1 : Nat} {l2 : Int32} {i3 : Nat} {j0 : Nat} {j1 : Nat} {j2 : Nat} (hw12_r0 : WF12 μ r0) (hb : (i1 + 2) < 192) (hK : (iv μ (r0 + 2) (i1 + 2)) ≤ (nI i3) → K (some (.int (iv μ (r0 + 9) 0))) μ) (hb_2 : ¬ (iv μ (r0 + 2) (i1 + 2)) ≤ (nI i3) → ((i1 + 8) + (3 * i3)) < 192) (hi_j0 : ¬ (iv μ (r0 + 2) (i1 + 2)) ≤ (nI i3) → (5 : Int32) ≤ (iv μ (r0 + 2) ((i1 + 8) + (3 * i3))) → ¬ (iv μ (r0 + 2) ((i1 + 8) + (3 * i3))) = (5 : Int32) → ¬ (iv μ (r0 + 2) ((i1 + 8) + (3 * i3))) = (6 : Int32) → (l2 + (-1)) - 1 = nI j0) (hb_3 : ¬ (iv μ (r0 + 2) (i1 + 2)) ≤ (nI i3) → (5 : Int32) ≤ (iv μ (r0 + 2) ((i1 + 8) + (3 * i3))) → ¬ (iv μ (r0 + 2) ((i1 + 8) + (3 * i3))) = (5 : Int32) → ¬ (iv μ (r0 + 2) ((i1 + 8) + (3 * i3))) = (6 : Int32) → j0 < 13) (hi_j1 : ¬ (iv μ (r0 + 2) (i1 + 2)) ≤ (nI i3) → (5 : Int32) ≤ (iv μ (r0 + 2) ((i1 + 8) + (3 * i3))) → ¬ (iv μ (r0 + 2) ((i1 + 8) + (3 * i3))) = (5 : Int32) → ¬ (iv μ (r0 + 2) ((i1 + 8) + (3 * i3))) = (6 : Int32) → l2 + (-1) = nI j1) (hb_4 : ¬ (iv μ (r0 + 2) (i1 + 2)) ≤ (nI i3) → (5 : Int32) ≤ (iv μ (r0 + 2) ((i1 + 8) + (3 * i3))) → ¬ (iv μ (r0 + 2) ((i1 + 8) + (3 * i3))) = (5 : Int32) → ¬ (iv μ (r0 + 2) ((i1 + 8) + (3 * i3))) = (6 : Int32) → j1 < 13) (h : ¬ (iv μ (r0 + 2) (i1 + 2)) ≤ (nI i3) → (5 : Int32) ≤ (iv μ (r0 + 2) ((i1 + 8) + (3 * i3))) → ¬ (iv μ (r0 + 2) ((i1 + 8) + (3 * i3))) = (5 : Int32) → ¬ (iv μ (r0 + 2) ((i1 + 8) + (3 * i3))) = (6 : Int32) → G X (Rm (d + 3)) mX12_itemsOf 140 [(0, .ref r0), (1, .int (nI i1)), (2, .int (l2 + (-1))), (3, .int (nI i3))] [.int (e_X12_or μ (iv μ (r0 + 9) j0) (iv μ (r0 + 9) j1)), .int ((l2 + (-1)) - 1), .ref (r0 + 9)] μ 0 0 K) (hi_j0_2 : ¬ (iv μ (r0 + 2) (i1 + 2)) ≤ (nI i3) → (5 : Int32) ≤ (iv μ (r0 + 2) ((i1 + 8) + (3 * i3))) → ¬ (iv μ (r0 + 2) ((i1 + 8) + (3 * i3))) = (5 : Int32) → (iv μ (r0 + 2) ((i1 + 8) + (3 * i3))) = (6 : Int32) → (l2 + (-1)) - 1 = nI j0) (hb_5 : ¬ (iv μ (r0 + 2) (i1 + 2)) ≤ (nI i3) → (5 : Int32) ≤ (iv μ (r0 + 2) ((i1 + 8) + (3 * i3))) → ¬ (iv μ (r0 + 2) ((i1 + 8) + (3 * i3))) = (5 : Int32) → (iv μ (r0 + 2) ((i1 + 8) + (3 * i3))) = (6 : Int32) → j0 < 13) (hi_j1_2 : ¬ (iv μ (r0 + 2) (i1 + 2)) ≤ (nI i3) → (5 : Int32) ≤ (iv μ (r0 + 2) ((i1 + 8) + (3 * i3))) → ¬ (iv μ (r0 + 2) ((i1 + 8) + (3 * i3))) = (5 : Int32) → (iv μ (r0 + 2) ((i1 + 8) + (3 * i3))) = (6 : Int32) → l2 + (-1) = nI j1) (hb_6 : ¬ (iv μ (r0 + 2) (i1 + 2)) ≤ (nI i3) → (5 : Int32) ≤ (iv μ (r0 + 2) ((i1 + 8) + (3 * i3))) → ¬ (iv μ (r0 + 2) ((i1 + 8) + (3 * i3))) = (5 : Int32) → (iv μ (r0 + 2) ((i1 + 8) + (3 * i3))) = (6 : Int32) → j1 < 13) (h_2 : ¬ (iv μ (r0 + 2) (i1 + 2)) ≤ (nI i3) → (5 : Int32) ≤ (iv μ (r0 + 2) ((i1 + 8) + (3 * i3))) → ¬ (iv μ (r0 + 2) ((i1 + 8) + (3 * i3))) = (5 : Int32) → (iv μ (r0 + 2) ((i1 + 8) + (3 * i3))) = (6 : Int32) → G X (Rm (d + 3)) mX12_itemsOf 140 [(0, .ref r0), (1, .int (nI i1)), (2, .int (l2 + (-1))), (3, .int (nI i3))] [.int (e_X12_and μ (iv μ (r0 + 9) j0) (iv μ (r0 + 9) j1)), .int ((l2 + (-1)) - 1), .ref (r0 + 9)] μ 0 0 K) (hi_j2 : ¬ (iv μ (r0 + 2) (i1 + 2)) ≤ (nI i3) → (5 : Int32) ≤ (iv μ (r0 + 2) ((i1 + 8) + (3 * i3))) → (iv μ (r0 + 2) ((i1 + 8) + (3 * i3))) = (5 : Int32) → l2 - 1 = nI j2) (hb_7 : ¬ (iv μ (r0 + 2) (i1 + 2)) ≤ (nI i3) → (5 : Int32) ≤ (iv μ (r0 + 2) ((i1 + 8) + (3 * i3))) → (iv μ (r0 + 2) ((i1 + 8) + (3 * i3))) = (5 : Int32) → j2 < 13) (h_3 : ¬ (iv μ (r0 + 2) (i1 + 2)) ≤ (nI i3) → (5 : Int32) ≤ (iv μ (r0 + 2) ((i1 + 8) + (3 * i3))) → (iv μ (r0 + 2) ((i1 + 8) + (3 * i3))) = (5 : Int32) → G X (Rm (d + 3)) mX12_itemsOf 141 [(0, .ref r0), (1, .int (nI i1)), (2, .int l2), (3, .int (nI i3))] [] (wi μ (r0 + 9) j2 ((2 : Int32) - (iv μ (r0 + 9) j2))) 0 0 K) (hc_told : ¬ (iv μ (r0 + 2) (i1 + 2)) ≤ (nI i3) → ¬ (5 : Int32) ≤ (iv μ (r0 + 2) ((i1 + 8) + (3 * i3))) → Ct X (Rm (d + 2)) mX12_told [.ref r0, .int (((nI i1) + 8) + ((3 : Int32) * (nI i3)))] μ (fun r μ2 => G X (Rm (d + 3)) mX12_itemsOf 52 [(0, .ref r0), (1, .int (nI i1)), (2, .int l2), (3, .int (nI i3))] (r.toList ++ [.int l2, .ref (r0 + 9)]) μ2 0 0 K)) : G X (Rm (d + 3)) mX12_itemsOf 4 [(0, .ref r0), (1, .int (nI i1)), (2, .int l2), (3, .int (nI i3))] [] μ 0 0 K := by
  refine G_iload_n d_X12_itemsOf_4 rfl 3 rfl ?_
  refine G_aload_n d_X12_itemsOf_5 rfl 0 rfl ?_
  refine G_getR (r := r0 + 2) 12 1 (w12_kd hw12_r0) (w12_f1 hw12_r0) cok12 (by decide) rfl fl_X12_13 d_X12_itemsOf_6 ?_
  refine G_iload_n d_X12_itemsOf_9 rfl 1 rfl ?_
  refine G_iconst d_X12_itemsOf_10 ic_2 ?_
  refine G_iadd d_X12_itemsOf_11 ?_
  refine G_iald (i1 + 2) (w12_k1 hw12_r0) (nadd rfl rfl) hb d_X12_itemsOf_12 ?_
  refine G_icmp_ge (tgt := 147) d_X12_itemsOf_13 rfl (fun c0 => ?_) (fun c0 => ?_)
  ·
    refine G_aload_n d_X12_itemsOf_147 rfl 0 rfl ?_
    refine G_getR (r := r0 + 9) 12 19 (w12_kd hw12_r0) (w12_f19 hw12_r0) cok12 (by decide) rfl fl_X12_34 d_X12_itemsOf_148 ?_
    refine G_iconst d_X12_itemsOf_151 ic_0 ?_
    refine G_iald 0 (w12_k19 hw12_r0) rfl (by decide) d_X12_itemsOf_152 ?_
    exact G_iret rfl rfl rfl d_X12_itemsOf_153 (hK c0)
  ·
    refine G_iload_n d_X12_itemsOf_16 rfl 1 rfl ?_
    refine G_bipush d_X12_itemsOf_17 bp_8 ?_
    refine G_iadd d_X12_itemsOf_19 ?_
    refine G_iconst d_X12_itemsOf_20 ic_3 ?_
    refine G_iload_n d_X12_itemsOf_21 rfl 3 rfl ?_
    refine G_imul d_X12_itemsOf_22 ?_
    refine G_iadd d_X12_itemsOf_23 ?_
    refine G_istore (L' := [(4, .int (((nI i1) + 8) + ((3 : Int32) * (nI i3)))), (0, .ref r0), (1, .int (nI i1)), (2, .int l2), (3, .int (nI i3))]) d_X12_itemsOf_24 (by decide) rfl ?_
    refine G_aload_n d_X12_itemsOf_26 rfl 1 rfl ?_
    refine G_getR (r := r0 + 2) 12 1 (w12_kd hw12_r0) (w12_f1 hw12_r0) cok12 (by decide) rfl fl_X12_13 d_X12_itemsOf_27 ?_
    refine G_iload d_X12_itemsOf_30 0 rfl ?_
    refine G_iald ((i1 + 8) + (3 * i3)) (w12_k1 hw12_r0) (nadd (nadd rfl rfl) (nmul rfl rfl)) (hb_2 c0) d_X12_itemsOf_32 ?_
    refine G_istore (L' := [(5, .int (iv μ (r0 + 2) ((i1 + 8) + (3 * i3)))), (4, .int (((nI i1) + 8) + ((3 : Int32) * (nI i3)))), (0, .ref r0), (1, .int (nI i1)), (2, .int l2), (3, .int (nI i3))]) d_X12_itemsOf_33 (by decide) rfl ?_
    refine G_iload d_X12_itemsOf_35 0 rfl ?_
    refine G_iconst d_X12_itemsOf_37 ic_5 ?_
    refine G_icmp_ge (tgt := 59) d_X12_itemsOf_38 rfl (fun c1 => ?_) (fun c1 => ?_)
    ·
      refine G_iload d_X12_itemsOf_59 0 rfl ?_
      refine G_iconst d_X12_itemsOf_61 ic_5 ?_
      refine G_icmp_ne (tgt := 86) d_X12_itemsOf_62 rfl (fun c2 => ?_) (fun c2 => ?_)
      ·
        refine G_iinc (L' := [(2, .int (l2 + (-1))), (5, .int (iv μ (r0 + 2) ((i1 + 8) + (3 * i3)))), (4, .int (((nI i1) + 8) + ((3 : Int32) * (nI i3)))), (0, .ref r0), (1, .int (nI i1)), (3, .int (nI i3))]) d_X12_itemsOf_86 4 rfl (decI _) (by decide) rfl ?_
        refine G_aload_n d_X12_itemsOf_89 rfl 3 rfl ?_
        refine G_getR (r := r0 + 9) 12 19 (w12_kd hw12_r0) (w12_f19 hw12_r0) cok12 (by decide) rfl fl_X12_34 d_X12_itemsOf_90 ?_
        refine G_iload_n d_X12_itemsOf_93 rfl 0 rfl ?_
        refine G_iconst d_X12_itemsOf_94 ic_1 ?_
        refine G_isub d_X12_itemsOf_95 ?_
        refine G_iload d_X12_itemsOf_96 1 rfl ?_
        refine G_bipush d_X12_itemsOf_98 bp_6 ?_
        refine G_icmp_ne (tgt := 123) d_X12_itemsOf_100 rfl (fun c3 => ?_) (fun c3 => ?_)
        ·
          refine G_aload_n d_X12_itemsOf_123 rfl 3 rfl ?_
          refine G_getR (r := r0 + 9) 12 19 (w12_kd hw12_r0) (w12_f19 hw12_r0) cok12 (by decide) rfl fl_X12_34 d_X12_itemsOf_124 ?_
          refine G_iload_n d_X12_itemsOf_127 rfl 0 rfl ?_
          refine G_iconst d_X12_itemsOf_128 ic_1 ?_
          refine G_isub d_X12_itemsOf_129 ?_
          refine G_iald j0 (w12_k19 hw12_r0) (hi_j0 c0 c1 c2 c3) (hb_3 c0 c1 c2 c3) d_X12_itemsOf_130 ?_
          refine G_aload_n d_X12_itemsOf_131 rfl 3 rfl ?_
          refine G_getR (r := r0 + 9) 12 19 (w12_kd hw12_r0) (w12_f19 hw12_r0) cok12 (by decide) rfl fl_X12_34 d_X12_itemsOf_132 ?_
          refine G_iload_n d_X12_itemsOf_135 rfl 0 rfl ?_
          refine G_iald j1 (w12_k19 hw12_r0) (hi_j1 c0 c1 c2 c3) (hb_4 c0 c1 c2 c3) d_X12_itemsOf_136 ?_
          refine G_callS (M' := mX12_or) (R' := (Rm (d + 2))) (S := [.int ((l2 + (-1)) - 1), .ref (r0 + 9)]) [.int (iv μ (r0 + 9) j0), .int (iv μ (r0 + 9) j1)] ok_X12_or ml_X12_175 pn_X12_or (ru_Rm (by decide)) (Nat.le_of_ble_eq_true rfl) d_X12_itemsOf_137 (s_X12_or (μ := μ)   ?_)
          show G X (Rm (d + 3)) mX12_itemsOf 140 [(2, .int (l2 + (-1))), (5, .int (iv μ (r0 + 2) ((i1 + 8) + (3 * i3)))), (4, .int (((nI i1) + 8) + ((3 : Int32) * (nI i3)))), (0, .ref r0), (1, .int (nI i1)), (3, .int (nI i3))] [.int (e_X12_or μ (iv μ (r0 + 9) j0) (iv μ (r0 + 9) j1)), .int ((l2 + (-1)) - 1), .ref (r0 + 9)] μ 0 0 K
          refine G_sub (L' := [(0, .ref r0), (1, .int (nI i1)), (2, .int (l2 + (-1))), (3, .int (nI i3))]) [3, 4, 0, 5] rfl ?_
          exact (h c0 c1 c2 c3)
        ·
          refine G_aload_n d_X12_itemsOf_103 rfl 3 rfl ?_
          refine G_getR (r := r0 + 9) 12 19 (w12_kd hw12_r0) (w12_f19 hw12_r0) cok12 (by decide) rfl fl_X12_34 d_X12_itemsOf_104 ?_
          refine G_iload_n d_X12_itemsOf_107 rfl 0 rfl ?_
          refine G_iconst d_X12_itemsOf_108 ic_1 ?_
          refine G_isub d_X12_itemsOf_109 ?_
          refine G_iald j0 (w12_k19 hw12_r0) (hi_j0_2 c0 c1 c2 c3) (hb_5 c0 c1 c2 c3) d_X12_itemsOf_110 ?_
          refine G_aload_n d_X12_itemsOf_111 rfl 3 rfl ?_
          refine G_getR (r := r0 + 9) 12 19 (w12_kd hw12_r0) (w12_f19 hw12_r0) cok12 (by decide) rfl fl_X12_34 d_X12_itemsOf_112 ?_
          refine G_iload_n d_X12_itemsOf_115 rfl 0 rfl ?_
          refine G_iald j1 (w12_k19 hw12_r0) (hi_j1_2 c0 c1 c2 c3) (hb_6 c0 c1 c2 c3) d_X12_itemsOf_116 ?_
          refine G_callS (M' := mX12_and) (R' := (Rm (d + 2))) (S := [.int ((l2 + (-1)) - 1), .ref (r0 + 9)]) [.int (iv μ (r0 + 9) j0), .int (iv μ (r0 + 9) j1)] ok_X12_and ml_X12_172 pn_X12_and (ru_Rm (by decide)) (Nat.le_of_ble_eq_true rfl) d_X12_itemsOf_117 (s_X12_and (μ := μ)   ?_)
          show G X (Rm (d + 3)) mX12_itemsOf 120 [(2, .int (l2 + (-1))), (5, .int (iv μ (r0 + 2) ((i1 + 8) + (3 * i3)))), (4, .int (((nI i1) + 8) + ((3 : Int32) * (nI i3)))), (0, .ref r0), (1, .int (nI i1)), (3, .int (nI i3))] [.int (e_X12_and μ (iv μ (r0 + 9) j0) (iv μ (r0 + 9) j1)), .int ((l2 + (-1)) - 1), .ref (r0 + 9)] μ 0 0 K
          refine G_goto (tgt := 140) d_X12_itemsOf_120 rfl ?_
          refine G_sub (L' := [(0, .ref r0), (1, .int (nI i1)), (2, .int (l2 + (-1))), (3, .int (nI i3))]) [3, 4, 0, 5] rfl ?_
          exact (h_2 c0 c1 c2 c3)
      ·
        refine G_aload_n d_X12_itemsOf_65 rfl 2 rfl ?_
        refine G_getR (r := r0 + 9) 12 19 (w12_kd hw12_r0) (w12_f19 hw12_r0) cok12 (by decide) rfl fl_X12_34 d_X12_itemsOf_66 ?_
        refine G_iload_n d_X12_itemsOf_69 rfl 4 rfl ?_
        refine G_iconst d_X12_itemsOf_70 ic_1 ?_
        refine G_isub d_X12_itemsOf_71 ?_
        refine G_iconst d_X12_itemsOf_72 ic_2 ?_
        refine G_aload_n d_X12_itemsOf_73 rfl 2 rfl ?_
        refine G_getR (r := r0 + 9) 12 19 (w12_kd hw12_r0) (w12_f19 hw12_r0) cok12 (by decide) rfl fl_X12_34 d_X12_itemsOf_74 ?_
        refine G_iload_n d_X12_itemsOf_77 rfl 4 rfl ?_
        refine G_iconst d_X12_itemsOf_78 ic_1 ?_
        refine G_isub d_X12_itemsOf_79 ?_
        refine G_iald j2 (w12_k19 hw12_r0) (hi_j2 c0 c1 c2) (hb_7 c0 c1 c2) d_X12_itemsOf_80 ?_
        refine G_isub d_X12_itemsOf_81 ?_
        refine G_iast j2 (w12_k19 hw12_r0) (hi_j2 c0 c1 c2) (hb_7 c0 c1 c2) d_X12_itemsOf_82 ?_
        refine G_goto (tgt := 141) d_X12_itemsOf_83 rfl ?_
        refine G_sub (L' := [(0, .ref r0), (1, .int (nI i1)), (2, .int l2), (3, .int (nI i3))]) [2, 3, 4, 5] rfl ?_
        exact (h_3 c0 c1 c2)
    ·
      refine G_aload_n d_X12_itemsOf_41 rfl 2 rfl ?_
      refine G_getR (r := r0 + 9) 12 19 (w12_kd hw12_r0) (w12_f19 hw12_r0) cok12 (by decide) rfl fl_X12_34 d_X12_itemsOf_42 ?_
      refine G_iload_n d_X12_itemsOf_45 rfl 4 rfl ?_
      refine G_aload_n d_X12_itemsOf_46 rfl 2 rfl ?_
      refine G_iload d_X12_itemsOf_47 1 rfl ?_
      refine G_sub (L' := [(0, .ref r0), (1, .int (nI i1)), (2, .int l2), (3, .int (nI i3))]) [2, 3, 4, 5] rfl ?_
      refine G_callV (M' := mX12_told) (R' := (Rm (d + 2))) (S := [.int l2, .ref (r0 + 9)]) [.int (((nI i1) + 8) + ((3 : Int32) * (nI i3)))] 12 (w12_kd hw12_r0) cok12 rfl ok_X12_told ml_X12_213 pn_X12_told (ru_Rm (by decide)) (Nat.le_of_ble_eq_true rfl) d_X12_itemsOf_49 ?_
      exact (hc_told c0 c1)
theorem b_X12_itemsOf_52 {X : cX} {d : Nat} {μ : mM} {K : Option Value → mM → Prop} {r0 : Nat} {l1 : Int32} {l2 : Int32} {l3 : Int32} {q0 : Nat} {v1 : Int32} {v2 : Int32} {n0 : Nat} {j0 : Nat} (hk_q0 : kd μ q0 = (1, n0)) (hi_j0 : v1 = nI j0) (hb : j0 < n0) (h : G X (Rm (d + 3)) mX12_itemsOf 141 [(0, .ref r0), (1, .int l1), (2, .int (l2 + 1)), (3, .int l3)] [] (wi μ q0 j0 v2) 0 0 K) : G X (Rm (d + 3)) mX12_itemsOf 52 [(0, .ref r0), (1, .int l1), (2, .int l2), (3, .int l3)] [.int v2, .int v1, .ref q0] μ 0 0 K := by
  refine G_iast j0 hk_q0 hi_j0 hb d_X12_itemsOf_52 ?_
  refine G_iinc (L' := [(2, .int (l2 + 1)), (0, .ref r0), (1, .int l1), (3, .int l3)]) d_X12_itemsOf_53 2 rfl (incI _) (by decide) rfl ?_
  refine G_goto (tgt := 141) d_X12_itemsOf_56 rfl ?_
  refine G_sub (L' := [(0, .ref r0), (1, .int l1), (2, .int (l2 + 1)), (3, .int l3)]) [1, 2, 0, 3] rfl ?_
  exact h
theorem b_X12_itemsOf_140 {X : cX} {d : Nat} {μ : mM} {K : Option Value → mM → Prop} {r0 : Nat} {l1 : Int32} {l2 : Int32} {l3 : Int32} {q0 : Nat} {v1 : Int32} {v2 : Int32} {n0 : Nat} {j0 : Nat} (hk_q0 : kd μ q0 = (1, n0)) (hi_j0 : v1 = nI j0) (hb : j0 < n0) (h : G X (Rm (d + 3)) mX12_itemsOf 141 [(0, .ref r0), (1, .int l1), (2, .int l2), (3, .int l3)] [] (wi μ q0 j0 v2) 0 0 K) : G X (Rm (d + 3)) mX12_itemsOf 140 [(0, .ref r0), (1, .int l1), (2, .int l2), (3, .int l3)] [.int v2, .int v1, .ref q0] μ 0 0 K := by
  refine G_iast j0 hk_q0 hi_j0 hb d_X12_itemsOf_140 ?_
  exact h
theorem b_X12_itemsOf_141 {X : cX} {d : Nat} {μ : mM} {K : Option Value → mM → Prop} {r0 : Nat} {l1 : Int32} {l2 : Int32} {i3 : Nat} (h : G X (Rm (d + 3)) mX12_itemsOf 4 [(0, .ref r0), (1, .int l1), (2, .int l2), (3, .int (nI (i3 + 1)))] [] μ 0 0 K) : G X (Rm (d + 3)) mX12_itemsOf 141 [(0, .ref r0), (1, .int l1), (2, .int l2), (3, .int (nI i3))] [] μ 0 0 K := by
  refine G_iinc (L' := [(3, .int (nI (i3 + 1))), (0, .ref r0), (1, .int l1), (2, .int l2)]) d_X12_itemsOf_141 3 rfl (inc1 i3) (by decide) rfl ?_
  refine G_goto (tgt := 4) d_X12_itemsOf_144 rfl ?_
  refine G_sub (L' := [(0, .ref r0), (1, .int l1), (2, .int l2), (3, .int (nI (i3 + 1)))]) [1, 2, 3, 0] rfl ?_
  exact h
theorem d_X12_joined_0 : decode cX12_joined 0 = .ok (.aload_n 0, 1) := by decide +kernel
theorem d_X12_joined_1 : decode cX12_joined 1 = .ok (.getfield 13, 3) := by decide +kernel
theorem d_X12_joined_4 : decode cX12_joined 4 = .ok (.iload_n 1, 1) := by decide +kernel
theorem d_X12_joined_5 : decode cX12_joined 5 = .ok (.iconst 1, 1) := by decide +kernel
theorem d_X12_joined_6 : decode cX12_joined 6 = .ok (.iadd, 1) := by decide +kernel
theorem d_X12_joined_7 : decode cX12_joined 7 = .ok (.iaload, 1) := by decide +kernel
theorem d_X12_joined_8 : decode cX12_joined 8 = .ok (.iload_n 2, 1) := by decide +kernel
theorem d_X12_joined_9 : decode cX12_joined 9 = .ok (.ishr, 1) := by decide +kernel
theorem d_X12_joined_10 : decode cX12_joined 10 = .ok (.iconst 1, 1) := by decide +kernel
theorem d_X12_joined_11 : decode cX12_joined 11 = .ok (.iand, 1) := by decide +kernel
theorem d_X12_joined_12 : decode cX12_joined 12 = .ok (.iconst 1, 1) := by decide +kernel
theorem d_X12_joined_13 : decode cX12_joined 13 = .ok (.if_icmp .ne 12, 3) := by decide +kernel
theorem d_X12_joined_16 : decode cX12_joined 16 = .ok (.iload_n 3, 1) := by decide +kernel
theorem d_X12_joined_17 : decode cX12_joined 17 = .ok (.iload 4, 2) := by decide +kernel
theorem d_X12_joined_19 : decode cX12_joined 19 = .ok (.invokestatic 172, 3) := by decide +kernel
theorem d_X12_joined_22 : decode cX12_joined 22 = .ok (.goto 9, 3) := by decide +kernel
theorem d_X12_joined_25 : decode cX12_joined 25 = .ok (.iload_n 3, 1) := by decide +kernel
theorem d_X12_joined_26 : decode cX12_joined 26 = .ok (.iload 4, 2) := by decide +kernel
theorem d_X12_joined_28 : decode cX12_joined 28 = .ok (.invokestatic 175, 3) := by decide +kernel
theorem d_X12_joined_31 : decode cX12_joined 31 = .ok (.ireturn, 1) := by decide +kernel
theorem b_X12_joined_0 {X : cX} {d : Nat} {μ : mM} {K : Option Value → mM → Prop} {r0 : Nat} {i1 : Nat} {l2 : Int32} {l3 : Int32} {l4 : Int32} (hw12_r0 : WF12 μ r0) (hb : (i1 + 1) < 192) (hK : ¬ (((iv μ (r0 + 2) (i1 + 1)) >>> (l2 &&& 31)) &&& 1) = (1 : Int32) → K (some (.int (e_X12_or μ l3 l4))) μ) (hK_2 : (((iv μ (r0 + 2) (i1 + 1)) >>> (l2 &&& 31)) &&& 1) = (1 : Int32) → K (some (.int (e_X12_and μ l3 l4))) μ) : G X (Rm (d + 1)) mX12_joined 0 [(0, .ref r0), (1, .int (nI i1)), (2, .int l2), (3, .int l3), (4, .int l4)] [] μ 0 0 K := by
  refine G_aload_n d_X12_joined_0 rfl 0 rfl ?_
  refine G_getR (r := r0 + 2) 12 1 (w12_kd hw12_r0) (w12_f1 hw12_r0) cok12 (by decide) rfl fl_X12_13 d_X12_joined_1 ?_
  refine G_iload_n d_X12_joined_4 rfl 1 rfl ?_
  refine G_iconst d_X12_joined_5 ic_1 ?_
  refine G_iadd d_X12_joined_6 ?_
  refine G_iald (i1 + 1) (w12_k1 hw12_r0) (nadd rfl rfl) hb d_X12_joined_7 ?_
  refine G_iload_n d_X12_joined_8 rfl 2 rfl ?_
  refine G_ishr d_X12_joined_9 ?_
  refine G_iconst d_X12_joined_10 ic_1 ?_
  refine G_iand d_X12_joined_11 ?_
  refine G_iconst d_X12_joined_12 ic_1 ?_
  refine G_icmp_ne (tgt := 25) d_X12_joined_13 rfl (fun c0 => ?_) (fun c0 => ?_)
  ·
    refine G_iload_n d_X12_joined_25 rfl 3 rfl ?_
    refine G_iload d_X12_joined_26 4 rfl ?_
    refine G_callS (M' := mX12_or) (R' := (Rm d)) (S := []) [.int l3, .int l4] ok_X12_or ml_X12_175 pn_X12_or (ru_Rm (by decide)) (Nat.le_of_ble_eq_true rfl) d_X12_joined_28 (s_X12_or (μ := μ)   ?_)
    show G X (Rm (d + 1)) mX12_joined 31 [(0, .ref r0), (1, .int (nI i1)), (2, .int l2), (3, .int l3), (4, .int l4)] [.int (e_X12_or μ l3 l4)] μ 0 0 K
    exact G_iret rfl rfl rfl d_X12_joined_31 (hK c0)
  ·
    refine G_iload_n d_X12_joined_16 rfl 3 rfl ?_
    refine G_iload d_X12_joined_17 4 rfl ?_
    refine G_callS (M' := mX12_and) (R' := (Rm d)) (S := []) [.int l3, .int l4] ok_X12_and ml_X12_172 pn_X12_and (ru_Rm (by decide)) (Nat.le_of_ble_eq_true rfl) d_X12_joined_19 (s_X12_and (μ := μ)   ?_)
    show G X (Rm (d + 1)) mX12_joined 22 [(0, .ref r0), (1, .int (nI i1)), (2, .int l2), (3, .int l3), (4, .int l4)] [.int (e_X12_and μ l3 l4)] μ 0 0 K
    refine G_goto (tgt := 31) d_X12_joined_22 rfl ?_
    exact G_iret rfl rfl rfl d_X12_joined_31 (hK_2 c0)
def e_X12_joined (μ : mM) (r0 : Nat) (i1 : Nat) (l2 : Int32) (l3 : Int32) (l4 : Int32) : Int32 := (if (((iv μ (r0 + 2) (i1 + 1)) >>> (l2 &&& 31)) &&& 1) = (1 : Int32) then (e_X12_and μ l3 l4) else (e_X12_or μ l3 l4))
theorem s_X12_joined {X : cX} {d : Nat} {μ : mM} {K : Option Value → mM → Prop} {r0 : Nat} {i1 : Nat} {l2 : Int32} {l3 : Int32} {l4 : Int32} (hw12_r0 : WF12 μ r0) (hb : (i1 + 1) < 192) (hK : K (some (.int (e_X12_joined μ r0 i1 l2 l3 l4))) μ) : Ct X (Rm (d + 1)) mX12_joined [.ref r0, .int (nI i1), .int l2, .int l3, .int l4] μ K := Ct_of rfl (Nat.le_of_ble_eq_true rfl) (G_sub [0, 1, 2, 3, 4] rfl (b_X12_joined_0 hw12_r0 hb (fun c0 => by unfold e_X12_joined at hK; rw [if_neg c0] at hK; exact hK) (fun c0 => by unfold e_X12_joined at hK; rw [if_pos c0] at hK; exact hK)))
theorem d_X12_begins_0 : decode cX12_begins 0 = .ok (.aload_n 0, 1) := by decide +kernel
theorem d_X12_begins_1 : decode cX12_begins 1 = .ok (.getfield 13, 3) := by decide +kernel
theorem d_X12_begins_4 : decode cX12_begins 4 = .ok (.iload_n 1, 1) := by decide +kernel
theorem d_X12_begins_5 : decode cX12_begins 5 = .ok (.iconst 1, 1) := by decide +kernel
theorem d_X12_begins_6 : decode cX12_begins 6 = .ok (.iadd, 1) := by decide +kernel
theorem d_X12_begins_7 : decode cX12_begins 7 = .ok (.iaload, 1) := by decide +kernel
theorem d_X12_begins_8 : decode cX12_begins 8 = .ok (.iload_n 2, 1) := by decide +kernel
theorem d_X12_begins_9 : decode cX12_begins 9 = .ok (.ishr, 1) := by decide +kernel
theorem d_X12_begins_10 : decode cX12_begins 10 = .ok (.iconst 1, 1) := by decide +kernel
theorem d_X12_begins_11 : decode cX12_begins 11 = .ok (.iand, 1) := by decide +kernel
theorem d_X12_begins_12 : decode cX12_begins 12 = .ok (.iconst 1, 1) := by decide +kernel
theorem d_X12_begins_13 : decode cX12_begins 13 = .ok (.if_icmp .ne 7, 3) := by decide +kernel
theorem d_X12_begins_16 : decode cX12_begins 16 = .ok (.iconst 2, 1) := by decide +kernel
theorem d_X12_begins_17 : decode cX12_begins 17 = .ok (.goto 4, 3) := by decide +kernel
theorem d_X12_begins_20 : decode cX12_begins 20 = .ok (.iconst 0, 1) := by decide +kernel
theorem d_X12_begins_21 : decode cX12_begins 21 = .ok (.ireturn, 1) := by decide +kernel
theorem b_X12_begins_0 {X : cX} {d : Nat} {μ : mM} {K : Option Value → mM → Prop} {r0 : Nat} {i1 : Nat} {l2 : Int32} (hw12_r0 : WF12 μ r0) (hb : (i1 + 1) < 192) (hK : ¬ (((iv μ (r0 + 2) (i1 + 1)) >>> (l2 &&& 31)) &&& 1) = (1 : Int32) → K (some (.int 0)) μ) (hK_2 : (((iv μ (r0 + 2) (i1 + 1)) >>> (l2 &&& 31)) &&& 1) = (1 : Int32) → K (some (.int 2)) μ) : G X (Rm d) mX12_begins 0 [(0, .ref r0), (1, .int (nI i1)), (2, .int l2)] [] μ 0 0 K := by
  refine G_aload_n d_X12_begins_0 rfl 0 rfl ?_
  refine G_getR (r := r0 + 2) 12 1 (w12_kd hw12_r0) (w12_f1 hw12_r0) cok12 (by decide) rfl fl_X12_13 d_X12_begins_1 ?_
  refine G_iload_n d_X12_begins_4 rfl 1 rfl ?_
  refine G_iconst d_X12_begins_5 ic_1 ?_
  refine G_iadd d_X12_begins_6 ?_
  refine G_iald (i1 + 1) (w12_k1 hw12_r0) (nadd rfl rfl) hb d_X12_begins_7 ?_
  refine G_iload_n d_X12_begins_8 rfl 2 rfl ?_
  refine G_ishr d_X12_begins_9 ?_
  refine G_iconst d_X12_begins_10 ic_1 ?_
  refine G_iand d_X12_begins_11 ?_
  refine G_iconst d_X12_begins_12 ic_1 ?_
  refine G_icmp_ne (tgt := 20) d_X12_begins_13 rfl (fun c0 => ?_) (fun c0 => ?_)
  ·
    refine G_iconst d_X12_begins_20 ic_0 ?_
    exact G_iret rfl rfl rfl d_X12_begins_21 (hK c0)
  ·
    refine G_iconst d_X12_begins_16 ic_2 ?_
    refine G_goto (tgt := 21) d_X12_begins_17 rfl ?_
    exact G_iret rfl rfl rfl d_X12_begins_21 (hK_2 c0)
def e_X12_begins (μ : mM) (r0 : Nat) (i1 : Nat) (l2 : Int32) : Int32 := (if (((iv μ (r0 + 2) (i1 + 1)) >>> (l2 &&& 31)) &&& 1) = (1 : Int32) then 2 else 0)
theorem s_X12_begins {X : cX} {d : Nat} {μ : mM} {K : Option Value → mM → Prop} {r0 : Nat} {i1 : Nat} {l2 : Int32} (hw12_r0 : WF12 μ r0) (hb : (i1 + 1) < 192) (hK : K (some (.int (e_X12_begins μ r0 i1 l2))) μ) : Ct X (Rm d) mX12_begins [.ref r0, .int (nI i1), .int l2] μ K := Ct_of rfl (Nat.le_of_ble_eq_true rfl) (G_sub [0, 1, 2] rfl (b_X12_begins_0 hw12_r0 hb (fun c0 => by unfold e_X12_begins at hK; rw [if_neg c0] at hK; exact hK) (fun c0 => by unfold e_X12_begins at hK; rw [if_pos c0] at hK; exact hK)))
theorem d_X12_thirdOf_0 : decode cX12_thirdOf 0 = .ok (.aload_n 0, 1) := by decide +kernel
theorem d_X12_thirdOf_1 : decode cX12_thirdOf 1 = .ok (.getfield 13, 3) := by decide +kernel
theorem d_X12_thirdOf_4 : decode cX12_thirdOf 4 = .ok (.iload_n 1, 1) := by decide +kernel
theorem d_X12_thirdOf_5 : decode cX12_thirdOf 5 = .ok (.iaload, 1) := by decide +kernel
theorem d_X12_thirdOf_6 : decode cX12_thirdOf 6 = .ok (.iconst 3, 1) := by decide +kernel
theorem d_X12_thirdOf_7 : decode cX12_thirdOf 7 = .ok (.if_icmp .ge 9, 3) := by decide +kernel
theorem d_X12_thirdOf_10 : decode cX12_thirdOf 10 = .ok (.aload_n 0, 1) := by decide +kernel
theorem d_X12_thirdOf_11 : decode cX12_thirdOf 11 = .ok (.iload_n 1, 1) := by decide +kernel
theorem d_X12_thirdOf_12 : decode cX12_thirdOf 12 = .ok (.invokevirtual 216, 3) := by decide +kernel
theorem d_X12_thirdOf_15 : decode cX12_thirdOf 15 = .ok (.ireturn, 1) := by decide +kernel
theorem d_X12_thirdOf_16 : decode cX12_thirdOf 16 = .ok (.aload_n 0, 1) := by decide +kernel
theorem d_X12_thirdOf_17 : decode cX12_thirdOf 17 = .ok (.iload_n 1, 1) := by decide +kernel
theorem d_X12_thirdOf_18 : decode cX12_thirdOf 18 = .ok (.iconst 2, 1) := by decide +kernel
theorem d_X12_thirdOf_19 : decode cX12_thirdOf 19 = .ok (.invokevirtual 219, 3) := by decide +kernel
theorem d_X12_thirdOf_22 : decode cX12_thirdOf 22 = .ok (.istore_n 2, 1) := by decide +kernel
theorem d_X12_thirdOf_23 : decode cX12_thirdOf 23 = .ok (.iconst 0, 1) := by decide +kernel
theorem d_X12_thirdOf_24 : decode cX12_thirdOf 24 = .ok (.istore_n 3, 1) := by decide +kernel
theorem d_X12_thirdOf_25 : decode cX12_thirdOf 25 = .ok (.iload_n 3, 1) := by decide +kernel
theorem d_X12_thirdOf_26 : decode cX12_thirdOf 26 = .ok (.aload_n 0, 1) := by decide +kernel
theorem d_X12_thirdOf_27 : decode cX12_thirdOf 27 = .ok (.invokevirtual 169, 3) := by decide +kernel
theorem d_X12_thirdOf_30 : decode cX12_thirdOf 30 = .ok (.if_icmp .ge 29, 3) := by decide +kernel
theorem d_X12_thirdOf_33 : decode cX12_thirdOf 33 = .ok (.aload_n 0, 1) := by decide +kernel
theorem d_X12_thirdOf_34 : decode cX12_thirdOf 34 = .ok (.getfield 31, 3) := by decide +kernel
theorem d_X12_thirdOf_37 : decode cX12_thirdOf 37 = .ok (.iconst 2, 1) := by decide +kernel
theorem d_X12_thirdOf_38 : decode cX12_thirdOf 38 = .ok (.iload_n 3, 1) := by decide +kernel
theorem d_X12_thirdOf_39 : decode cX12_thirdOf 39 = .ok (.iastore, 1) := by decide +kernel
theorem d_X12_thirdOf_40 : decode cX12_thirdOf 40 = .ok (.aload_n 0, 1) := by decide +kernel
theorem d_X12_thirdOf_41 : decode cX12_thirdOf 41 = .ok (.iload_n 1, 1) := by decide +kernel
theorem d_X12_thirdOf_42 : decode cX12_thirdOf 42 = .ok (.iconst 2, 1) := by decide +kernel
theorem d_X12_thirdOf_43 : decode cX12_thirdOf 43 = .ok (.iload_n 2, 1) := by decide +kernel
theorem d_X12_thirdOf_44 : decode cX12_thirdOf 44 = .ok (.aload_n 0, 1) := by decide +kernel
theorem d_X12_thirdOf_45 : decode cX12_thirdOf 45 = .ok (.iload_n 1, 1) := by decide +kernel
theorem d_X12_thirdOf_46 : decode cX12_thirdOf 46 = .ok (.invokevirtual 216, 3) := by decide +kernel
theorem d_X12_thirdOf_49 : decode cX12_thirdOf 49 = .ok (.invokevirtual 222, 3) := by decide +kernel
theorem d_X12_thirdOf_52 : decode cX12_thirdOf 52 = .ok (.istore_n 2, 1) := by decide +kernel
theorem d_X12_thirdOf_53 : decode cX12_thirdOf 53 = .ok (.iinc 3 1, 3) := by decide +kernel
theorem d_X12_thirdOf_56 : decode cX12_thirdOf 56 = .ok (.goto (-31), 3) := by decide +kernel
theorem d_X12_thirdOf_59 : decode cX12_thirdOf 59 = .ok (.iload_n 2, 1) := by decide +kernel
theorem d_X12_thirdOf_60 : decode cX12_thirdOf 60 = .ok (.ireturn, 1) := by decide +kernel
theorem b_X12_thirdOf_0 {X : cX} {d : Nat} {μ : mM} {K : Option Value → mM → Prop} {r0 : Nat} {i1 : Nat} (hw12_r0 : WF12 μ r0) (hb : i1 < 192) (hs : (3 : Int32) ≤ (iv μ (r0 + 2) i1) → (i1 + 1) < 192) (h : (3 : Int32) ≤ (iv μ (r0 + 2) i1) → G X (Rm (d + 4)) mX12_thirdOf 25 [(0, .ref r0), (1, .int (nI i1)), (2, .int (e_X12_begins μ r0 i1 2)), (3, .int (nI 0))] [] μ 0 0 K) (hc_itemsOf : ¬ (3 : Int32) ≤ (iv μ (r0 + 2) i1) → Ct X (Rm (d + 3)) mX12_itemsOf [.ref r0, .int (nI i1)] μ (fun r μ2 => G X (Rm (d + 4)) mX12_thirdOf 15 [] (r.toList ++ []) μ2 0 0 K)) : G X (Rm (d + 4)) mX12_thirdOf 0 [(0, .ref r0), (1, .int (nI i1))] [] μ 0 0 K := by
  refine G_aload_n d_X12_thirdOf_0 rfl 0 rfl ?_
  refine G_getR (r := r0 + 2) 12 1 (w12_kd hw12_r0) (w12_f1 hw12_r0) cok12 (by decide) rfl fl_X12_13 d_X12_thirdOf_1 ?_
  refine G_iload_n d_X12_thirdOf_4 rfl 1 rfl ?_
  refine G_iald i1 (w12_k1 hw12_r0) rfl hb d_X12_thirdOf_5 ?_
  refine G_iconst d_X12_thirdOf_6 ic_3 ?_
  refine G_icmp_ge (tgt := 16) d_X12_thirdOf_7 rfl (fun c0 => ?_) (fun c0 => ?_)
  ·
    refine G_aload_n d_X12_thirdOf_16 rfl 0 rfl ?_
    refine G_iload_n d_X12_thirdOf_17 rfl 1 rfl ?_
    refine G_iconst d_X12_thirdOf_18 ic_2 ?_
    refine G_callV (M' := mX12_begins) (R' := (Rm (d + 3))) (S := []) [.int (nI i1), .int 2] 12 (w12_kd hw12_r0) cok12 rfl ok_X12_begins ml_X12_219 pn_X12_begins (ru_Rm (by decide)) (Nat.le_of_ble_eq_true rfl) d_X12_thirdOf_19 (s_X12_begins (μ := μ) (i1 := i1) hw12_r0 (hs c0) ?_)
    show G X (Rm (d + 4)) mX12_thirdOf 22 [(0, .ref r0), (1, .int (nI i1))] [.int (e_X12_begins μ r0 i1 2)] μ 0 0 K
    refine G_istore_n (L' := [(2, .int (e_X12_begins μ r0 i1 2)), (0, .ref r0), (1, .int (nI i1))]) d_X12_thirdOf_22 rfl (by decide) rfl ?_
    refine G_iconst d_X12_thirdOf_23 ic_0 ?_
    refine G_istore_n (L' := [(3, .int (nI 0)), (2, .int (e_X12_begins μ r0 i1 2)), (0, .ref r0), (1, .int (nI i1))]) d_X12_thirdOf_24 rfl (by decide) rfl ?_
    refine G_sub (L' := [(0, .ref r0), (1, .int (nI i1)), (2, .int (e_X12_begins μ r0 i1 2)), (3, .int (nI 0))]) [2, 3, 1, 0] rfl ?_
    exact (h c0)
  ·
    refine G_aload_n d_X12_thirdOf_10 rfl 0 rfl ?_
    refine G_iload_n d_X12_thirdOf_11 rfl 1 rfl ?_
    refine G_sub (L' := []) [] rfl ?_
    refine G_callV (M' := mX12_itemsOf) (R' := (Rm (d + 3))) (S := []) [.int (nI i1)] 12 (w12_kd hw12_r0) cok12 rfl ok_X12_itemsOf ml_X12_216 pn_X12_itemsOf (ru_Rm (by decide)) (Nat.le_of_ble_eq_true rfl) d_X12_thirdOf_12 ?_
    exact (hc_itemsOf c0)
theorem b_X12_thirdOf_15 {X : cX} {d : Nat} {μ : mM} {K : Option Value → mM → Prop} {v0 : Int32} (hK : K (some (.int v0)) μ) : G X (Rm (d + 4)) mX12_thirdOf 15 [] [.int v0] μ 0 0 K := by
  exact G_iret rfl rfl rfl d_X12_thirdOf_15 hK
theorem b_X12_thirdOf_25 {X : cX} {d : Nat} {μ : mM} {K : Option Value → mM → Prop} {r0 : Nat} {l1 : Int32} {l2 : Int32} {l3 : Int32} (hw12_r0 : WF12 μ r0) (hK : (e_X12_nodes μ r0) ≤ l3 → K (some (.int l2)) μ) (hc_itemsOf : ¬ (e_X12_nodes μ r0) ≤ l3 → Ct X (Rm (d + 3)) mX12_itemsOf [.ref r0, .int l1] (wi μ (r0 + 8) 2 l3) (fun r μ2 => G X (Rm (d + 4)) mX12_thirdOf 49 [(0, .ref r0), (1, .int l1), (3, .int l3)] (r.toList ++ [.int l2, .int 2, .int l1, .ref r0]) μ2 0 0 K)) : G X (Rm (d + 4)) mX12_thirdOf 25 [(0, .ref r0), (1, .int l1), (2, .int l2), (3, .int l3)] [] μ 0 0 K := by
  refine G_iload_n d_X12_thirdOf_25 rfl 3 rfl ?_
  refine G_aload_n d_X12_thirdOf_26 rfl 0 rfl ?_
  refine G_callV (M' := mX12_nodes) (R' := (Rm (d + 3))) (S := [.int l3]) [] 12 (w12_kd hw12_r0) cok12 rfl ok_X12_nodes ml_X12_169 pn_X12_nodes (ru_Rm (by decide)) (Nat.le_of_ble_eq_true rfl) d_X12_thirdOf_27 (s_X12_nodes (μ := μ)  hw12_r0 ?_)
  show G X (Rm (d + 4)) mX12_thirdOf 30 [(0, .ref r0), (1, .int l1), (2, .int l2), (3, .int l3)] [.int (e_X12_nodes μ r0), .int l3] μ 0 0 K
  refine G_icmp_ge (tgt := 59) d_X12_thirdOf_30 rfl (fun c0 => ?_) (fun c0 => ?_)
  ·
    refine G_iload_n d_X12_thirdOf_59 rfl 2 rfl ?_
    exact G_iret rfl rfl rfl d_X12_thirdOf_60 (hK c0)
  ·
    refine G_aload_n d_X12_thirdOf_33 rfl 0 rfl ?_
    refine G_getR (r := r0 + 8) 12 18 (w12_kd hw12_r0) (w12_f18 hw12_r0) cok12 (by decide) rfl fl_X12_31 d_X12_thirdOf_34 ?_
    refine G_iconst d_X12_thirdOf_37 ic_2 ?_
    refine G_iload_n d_X12_thirdOf_38 rfl 3 rfl ?_
    refine G_iast 2 (w12_k18 hw12_r0) rfl (by decide) d_X12_thirdOf_39 ?_
    refine G_aload_n d_X12_thirdOf_40 rfl 0 rfl ?_
    refine G_iload_n d_X12_thirdOf_41 rfl 1 rfl ?_
    refine G_iconst d_X12_thirdOf_42 ic_2 ?_
    refine G_iload_n d_X12_thirdOf_43 rfl 2 rfl ?_
    refine G_aload_n d_X12_thirdOf_44 rfl 0 rfl ?_
    refine G_iload_n d_X12_thirdOf_45 rfl 1 rfl ?_
    refine G_sub (L' := [(0, .ref r0), (1, .int l1), (3, .int l3)]) [0, 1, 3] rfl ?_
    refine G_callV (M' := mX12_itemsOf) (R' := (Rm (d + 3))) (S := [.int l2, .int 2, .int l1, .ref r0]) [.int l1] 12 (w12_kd hw12_r0) cok12 rfl ok_X12_itemsOf ml_X12_216 pn_X12_itemsOf (ru_Rm (by decide)) (Nat.le_of_ble_eq_true rfl) d_X12_thirdOf_46 ?_
    exact (hc_itemsOf c0)
theorem b_X12_thirdOf_49 {X : cX} {d : Nat} {μ : mM} {K : Option Value → mM → Prop} {r0 : Nat} {l1 : Int32} {i3 : Nat} {q0 : Nat} {v1 : Int32} {v2 : Int32} {v3 : Int32} {v4 : Int32} {j0 : Nat} (hi_j0 : v1 = nI j0) (hw12_q0 : WF12 μ q0) (hs : (j0 + 1) < 192) (h : G X (Rm (d + 4)) mX12_thirdOf 25 [(0, .ref r0), (1, .int l1), (2, .int (e_X12_joined μ q0 j0 v2 v3 v4)), (3, .int (nI (i3 + 1)))] [] μ 0 0 K) : G X (Rm (d + 4)) mX12_thirdOf 49 [(0, .ref r0), (1, .int l1), (3, .int (nI i3))] [.int v4, .int v3, .int v2, .int v1, .ref q0] μ 0 0 K := by
  refine G_stk (S' := [.int v4, .int v3, .int v2, .int (nI j0), .ref q0]) (by rw [hi_j0]) ?_
  refine G_callV (M' := mX12_joined) (R' := (Rm (d + 3))) (S := []) [.int (nI j0), .int v2, .int v3, .int v4] 12 (w12_kd hw12_q0) cok12 rfl ok_X12_joined ml_X12_222 pn_X12_joined (ru_Rm (by decide)) (Nat.le_of_ble_eq_true rfl) d_X12_thirdOf_49 (s_X12_joined (μ := μ) (i1 := j0) hw12_q0 hs ?_)
  show G X (Rm (d + 4)) mX12_thirdOf 52 [(0, .ref r0), (1, .int l1), (3, .int (nI i3))] [.int (e_X12_joined μ q0 j0 v2 v3 v4)] μ 0 0 K
  refine G_istore_n (L' := [(2, .int (e_X12_joined μ q0 j0 v2 v3 v4)), (0, .ref r0), (1, .int l1), (3, .int (nI i3))]) d_X12_thirdOf_52 rfl (by decide) rfl ?_
  refine G_iinc (L' := [(3, .int (nI (i3 + 1))), (2, .int (e_X12_joined μ q0 j0 v2 v3 v4)), (0, .ref r0), (1, .int l1)]) d_X12_thirdOf_53 3 rfl (inc1 i3) (by decide) rfl ?_
  refine G_goto (tgt := 25) d_X12_thirdOf_56 rfl ?_
  refine G_sub (L' := [(0, .ref r0), (1, .int l1), (2, .int (e_X12_joined μ q0 j0 v2 v3 v4)), (3, .int (nI (i3 + 1)))]) [2, 3, 1, 0] rfl ?_
  exact h
theorem d_X12_secondOf_0 : decode cX12_secondOf 0 = .ok (.aload_n 0, 1) := by decide +kernel
theorem d_X12_secondOf_1 : decode cX12_secondOf 1 = .ok (.getfield 13, 3) := by decide +kernel
theorem d_X12_secondOf_4 : decode cX12_secondOf 4 = .ok (.iload_n 1, 1) := by decide +kernel
theorem d_X12_secondOf_5 : decode cX12_secondOf 5 = .ok (.iaload, 1) := by decide +kernel
theorem d_X12_secondOf_6 : decode cX12_secondOf 6 = .ok (.iconst 2, 1) := by decide +kernel
theorem d_X12_secondOf_7 : decode cX12_secondOf 7 = .ok (.if_icmp .ge 9, 3) := by decide +kernel
theorem d_X12_secondOf_10 : decode cX12_secondOf 10 = .ok (.aload_n 0, 1) := by decide +kernel
theorem d_X12_secondOf_11 : decode cX12_secondOf 11 = .ok (.iload_n 1, 1) := by decide +kernel
theorem d_X12_secondOf_12 : decode cX12_secondOf 12 = .ok (.invokevirtual 216, 3) := by decide +kernel
theorem d_X12_secondOf_15 : decode cX12_secondOf 15 = .ok (.ireturn, 1) := by decide +kernel
theorem d_X12_secondOf_16 : decode cX12_secondOf 16 = .ok (.aload_n 0, 1) := by decide +kernel
theorem d_X12_secondOf_17 : decode cX12_secondOf 17 = .ok (.iload_n 1, 1) := by decide +kernel
theorem d_X12_secondOf_18 : decode cX12_secondOf 18 = .ok (.iconst 1, 1) := by decide +kernel
theorem d_X12_secondOf_19 : decode cX12_secondOf 19 = .ok (.invokevirtual 219, 3) := by decide +kernel
theorem d_X12_secondOf_22 : decode cX12_secondOf 22 = .ok (.istore_n 2, 1) := by decide +kernel
theorem d_X12_secondOf_23 : decode cX12_secondOf 23 = .ok (.iconst 0, 1) := by decide +kernel
theorem d_X12_secondOf_24 : decode cX12_secondOf 24 = .ok (.istore_n 3, 1) := by decide +kernel
theorem d_X12_secondOf_25 : decode cX12_secondOf 25 = .ok (.iload_n 3, 1) := by decide +kernel
theorem d_X12_secondOf_26 : decode cX12_secondOf 26 = .ok (.aload_n 0, 1) := by decide +kernel
theorem d_X12_secondOf_27 : decode cX12_secondOf 27 = .ok (.invokevirtual 169, 3) := by decide +kernel
theorem d_X12_secondOf_30 : decode cX12_secondOf 30 = .ok (.if_icmp .ge 29, 3) := by decide +kernel
theorem d_X12_secondOf_33 : decode cX12_secondOf 33 = .ok (.aload_n 0, 1) := by decide +kernel
theorem d_X12_secondOf_34 : decode cX12_secondOf 34 = .ok (.getfield 31, 3) := by decide +kernel
theorem d_X12_secondOf_37 : decode cX12_secondOf 37 = .ok (.iconst 1, 1) := by decide +kernel
theorem d_X12_secondOf_38 : decode cX12_secondOf 38 = .ok (.iload_n 3, 1) := by decide +kernel
theorem d_X12_secondOf_39 : decode cX12_secondOf 39 = .ok (.iastore, 1) := by decide +kernel
theorem d_X12_secondOf_40 : decode cX12_secondOf 40 = .ok (.aload_n 0, 1) := by decide +kernel
theorem d_X12_secondOf_41 : decode cX12_secondOf 41 = .ok (.iload_n 1, 1) := by decide +kernel
theorem d_X12_secondOf_42 : decode cX12_secondOf 42 = .ok (.iconst 1, 1) := by decide +kernel
theorem d_X12_secondOf_43 : decode cX12_secondOf 43 = .ok (.iload_n 2, 1) := by decide +kernel
theorem d_X12_secondOf_44 : decode cX12_secondOf 44 = .ok (.aload_n 0, 1) := by decide +kernel
theorem d_X12_secondOf_45 : decode cX12_secondOf 45 = .ok (.iload_n 1, 1) := by decide +kernel
theorem d_X12_secondOf_46 : decode cX12_secondOf 46 = .ok (.invokevirtual 226, 3) := by decide +kernel
theorem d_X12_secondOf_49 : decode cX12_secondOf 49 = .ok (.invokevirtual 222, 3) := by decide +kernel
theorem d_X12_secondOf_52 : decode cX12_secondOf 52 = .ok (.istore_n 2, 1) := by decide +kernel
theorem d_X12_secondOf_53 : decode cX12_secondOf 53 = .ok (.iinc 3 1, 3) := by decide +kernel
theorem d_X12_secondOf_56 : decode cX12_secondOf 56 = .ok (.goto (-31), 3) := by decide +kernel
theorem d_X12_secondOf_59 : decode cX12_secondOf 59 = .ok (.iload_n 2, 1) := by decide +kernel
theorem d_X12_secondOf_60 : decode cX12_secondOf 60 = .ok (.ireturn, 1) := by decide +kernel
theorem b_X12_secondOf_0 {X : cX} {d : Nat} {μ : mM} {K : Option Value → mM → Prop} {r0 : Nat} {i1 : Nat} (hw12_r0 : WF12 μ r0) (hb : i1 < 192) (hs : (2 : Int32) ≤ (iv μ (r0 + 2) i1) → (i1 + 1) < 192) (h : (2 : Int32) ≤ (iv μ (r0 + 2) i1) → G X (Rm (d + 5)) mX12_secondOf 25 [(0, .ref r0), (1, .int (nI i1)), (2, .int (e_X12_begins μ r0 i1 1)), (3, .int (nI 0))] [] μ 0 0 K) (hc_itemsOf : ¬ (2 : Int32) ≤ (iv μ (r0 + 2) i1) → Ct X (Rm (d + 4)) mX12_itemsOf [.ref r0, .int (nI i1)] μ (fun r μ2 => G X (Rm (d + 5)) mX12_secondOf 15 [] (r.toList ++ []) μ2 0 0 K)) : G X (Rm (d + 5)) mX12_secondOf 0 [(0, .ref r0), (1, .int (nI i1))] [] μ 0 0 K := by
  refine G_aload_n d_X12_secondOf_0 rfl 0 rfl ?_
  refine G_getR (r := r0 + 2) 12 1 (w12_kd hw12_r0) (w12_f1 hw12_r0) cok12 (by decide) rfl fl_X12_13 d_X12_secondOf_1 ?_
  refine G_iload_n d_X12_secondOf_4 rfl 1 rfl ?_
  refine G_iald i1 (w12_k1 hw12_r0) rfl hb d_X12_secondOf_5 ?_
  refine G_iconst d_X12_secondOf_6 ic_2 ?_
  refine G_icmp_ge (tgt := 16) d_X12_secondOf_7 rfl (fun c0 => ?_) (fun c0 => ?_)
  ·
    refine G_aload_n d_X12_secondOf_16 rfl 0 rfl ?_
    refine G_iload_n d_X12_secondOf_17 rfl 1 rfl ?_
    refine G_iconst d_X12_secondOf_18 ic_1 ?_
    refine G_callV (M' := mX12_begins) (R' := (Rm (d + 4))) (S := []) [.int (nI i1), .int 1] 12 (w12_kd hw12_r0) cok12 rfl ok_X12_begins ml_X12_219 pn_X12_begins (ru_Rm (by decide)) (Nat.le_of_ble_eq_true rfl) d_X12_secondOf_19 (s_X12_begins (μ := μ) (i1 := i1) hw12_r0 (hs c0) ?_)
    show G X (Rm (d + 5)) mX12_secondOf 22 [(0, .ref r0), (1, .int (nI i1))] [.int (e_X12_begins μ r0 i1 1)] μ 0 0 K
    refine G_istore_n (L' := [(2, .int (e_X12_begins μ r0 i1 1)), (0, .ref r0), (1, .int (nI i1))]) d_X12_secondOf_22 rfl (by decide) rfl ?_
    refine G_iconst d_X12_secondOf_23 ic_0 ?_
    refine G_istore_n (L' := [(3, .int (nI 0)), (2, .int (e_X12_begins μ r0 i1 1)), (0, .ref r0), (1, .int (nI i1))]) d_X12_secondOf_24 rfl (by decide) rfl ?_
    refine G_sub (L' := [(0, .ref r0), (1, .int (nI i1)), (2, .int (e_X12_begins μ r0 i1 1)), (3, .int (nI 0))]) [2, 3, 1, 0] rfl ?_
    exact (h c0)
  ·
    refine G_aload_n d_X12_secondOf_10 rfl 0 rfl ?_
    refine G_iload_n d_X12_secondOf_11 rfl 1 rfl ?_
    refine G_sub (L' := []) [] rfl ?_
    refine G_callV (M' := mX12_itemsOf) (R' := (Rm (d + 4))) (S := []) [.int (nI i1)] 12 (w12_kd hw12_r0) cok12 rfl ok_X12_itemsOf ml_X12_216 pn_X12_itemsOf (ru_Rm (by decide)) (Nat.le_of_ble_eq_true rfl) d_X12_secondOf_12 ?_
    exact (hc_itemsOf c0)
theorem b_X12_secondOf_15 {X : cX} {d : Nat} {μ : mM} {K : Option Value → mM → Prop} {v0 : Int32} (hK : K (some (.int v0)) μ) : G X (Rm (d + 5)) mX12_secondOf 15 [] [.int v0] μ 0 0 K := by
  exact G_iret rfl rfl rfl d_X12_secondOf_15 hK
theorem b_X12_secondOf_25 {X : cX} {d : Nat} {μ : mM} {K : Option Value → mM → Prop} {r0 : Nat} {l1 : Int32} {l2 : Int32} {l3 : Int32} (hw12_r0 : WF12 μ r0) (hK : (e_X12_nodes μ r0) ≤ l3 → K (some (.int l2)) μ) (hc_thirdOf : ¬ (e_X12_nodes μ r0) ≤ l3 → Ct X (Rm (d + 4)) mX12_thirdOf [.ref r0, .int l1] (wi μ (r0 + 8) 1 l3) (fun r μ2 => G X (Rm (d + 5)) mX12_secondOf 49 [(0, .ref r0), (1, .int l1), (3, .int l3)] (r.toList ++ [.int l2, .int 1, .int l1, .ref r0]) μ2 0 0 K)) : G X (Rm (d + 5)) mX12_secondOf 25 [(0, .ref r0), (1, .int l1), (2, .int l2), (3, .int l3)] [] μ 0 0 K := by
  refine G_iload_n d_X12_secondOf_25 rfl 3 rfl ?_
  refine G_aload_n d_X12_secondOf_26 rfl 0 rfl ?_
  refine G_callV (M' := mX12_nodes) (R' := (Rm (d + 4))) (S := [.int l3]) [] 12 (w12_kd hw12_r0) cok12 rfl ok_X12_nodes ml_X12_169 pn_X12_nodes (ru_Rm (by decide)) (Nat.le_of_ble_eq_true rfl) d_X12_secondOf_27 (s_X12_nodes (μ := μ)  hw12_r0 ?_)
  show G X (Rm (d + 5)) mX12_secondOf 30 [(0, .ref r0), (1, .int l1), (2, .int l2), (3, .int l3)] [.int (e_X12_nodes μ r0), .int l3] μ 0 0 K
  refine G_icmp_ge (tgt := 59) d_X12_secondOf_30 rfl (fun c0 => ?_) (fun c0 => ?_)
  ·
    refine G_iload_n d_X12_secondOf_59 rfl 2 rfl ?_
    exact G_iret rfl rfl rfl d_X12_secondOf_60 (hK c0)
  ·
    refine G_aload_n d_X12_secondOf_33 rfl 0 rfl ?_
    refine G_getR (r := r0 + 8) 12 18 (w12_kd hw12_r0) (w12_f18 hw12_r0) cok12 (by decide) rfl fl_X12_31 d_X12_secondOf_34 ?_
    refine G_iconst d_X12_secondOf_37 ic_1 ?_
    refine G_iload_n d_X12_secondOf_38 rfl 3 rfl ?_
    refine G_iast 1 (w12_k18 hw12_r0) rfl (by decide) d_X12_secondOf_39 ?_
    refine G_aload_n d_X12_secondOf_40 rfl 0 rfl ?_
    refine G_iload_n d_X12_secondOf_41 rfl 1 rfl ?_
    refine G_iconst d_X12_secondOf_42 ic_1 ?_
    refine G_iload_n d_X12_secondOf_43 rfl 2 rfl ?_
    refine G_aload_n d_X12_secondOf_44 rfl 0 rfl ?_
    refine G_iload_n d_X12_secondOf_45 rfl 1 rfl ?_
    refine G_sub (L' := [(0, .ref r0), (1, .int l1), (3, .int l3)]) [0, 1, 3] rfl ?_
    refine G_callV (M' := mX12_thirdOf) (R' := (Rm (d + 4))) (S := [.int l2, .int 1, .int l1, .ref r0]) [.int l1] 12 (w12_kd hw12_r0) cok12 rfl ok_X12_thirdOf ml_X12_226 pn_X12_thirdOf (ru_Rm (by decide)) (Nat.le_of_ble_eq_true rfl) d_X12_secondOf_46 ?_
    exact (hc_thirdOf c0)
theorem b_X12_secondOf_49 {X : cX} {d : Nat} {μ : mM} {K : Option Value → mM → Prop} {r0 : Nat} {l1 : Int32} {i3 : Nat} {q0 : Nat} {v1 : Int32} {v2 : Int32} {v3 : Int32} {v4 : Int32} {j0 : Nat} (hi_j0 : v1 = nI j0) (hw12_q0 : WF12 μ q0) (hs : (j0 + 1) < 192) (h : G X (Rm (d + 5)) mX12_secondOf 25 [(0, .ref r0), (1, .int l1), (2, .int (e_X12_joined μ q0 j0 v2 v3 v4)), (3, .int (nI (i3 + 1)))] [] μ 0 0 K) : G X (Rm (d + 5)) mX12_secondOf 49 [(0, .ref r0), (1, .int l1), (3, .int (nI i3))] [.int v4, .int v3, .int v2, .int v1, .ref q0] μ 0 0 K := by
  refine G_stk (S' := [.int v4, .int v3, .int v2, .int (nI j0), .ref q0]) (by rw [hi_j0]) ?_
  refine G_callV (M' := mX12_joined) (R' := (Rm (d + 4))) (S := []) [.int (nI j0), .int v2, .int v3, .int v4] 12 (w12_kd hw12_q0) cok12 rfl ok_X12_joined ml_X12_222 pn_X12_joined (ru_Rm (by decide)) (Nat.le_of_ble_eq_true rfl) d_X12_secondOf_49 (s_X12_joined (μ := μ) (i1 := j0) hw12_q0 hs ?_)
  show G X (Rm (d + 5)) mX12_secondOf 52 [(0, .ref r0), (1, .int l1), (3, .int (nI i3))] [.int (e_X12_joined μ q0 j0 v2 v3 v4)] μ 0 0 K
  refine G_istore_n (L' := [(2, .int (e_X12_joined μ q0 j0 v2 v3 v4)), (0, .ref r0), (1, .int l1), (3, .int (nI i3))]) d_X12_secondOf_52 rfl (by decide) rfl ?_
  refine G_iinc (L' := [(3, .int (nI (i3 + 1))), (2, .int (e_X12_joined μ q0 j0 v2 v3 v4)), (0, .ref r0), (1, .int l1)]) d_X12_secondOf_53 3 rfl (inc1 i3) (by decide) rfl ?_
  refine G_goto (tgt := 25) d_X12_secondOf_56 rfl ?_
  refine G_sub (L' := [(0, .ref r0), (1, .int l1), (2, .int (e_X12_joined μ q0 j0 v2 v3 v4)), (3, .int (nI (i3 + 1)))]) [2, 3, 1, 0] rfl ?_
  exact h
theorem d_X12_ask_0 : decode cX12_ask 0 = .ok (.aload_n 0, 1) := by decide +kernel
theorem d_X12_ask_1 : decode cX12_ask 1 = .ok (.iload_n 1, 1) := by decide +kernel
theorem d_X12_ask_2 : decode cX12_ask 2 = .ok (.invokevirtual 229, 3) := by decide +kernel
theorem d_X12_ask_5 : decode cX12_ask 5 = .ok (.ifCond .ne 5, 3) := by decide +kernel
theorem d_X12_ask_8 : decode cX12_ask 8 = .ok (.iconst (-1), 1) := by decide +kernel
theorem d_X12_ask_9 : decode cX12_ask 9 = .ok (.ireturn, 1) := by decide +kernel
theorem d_X12_ask_10 : decode cX12_ask 10 = .ok (.bipush 48, 2) := by decide +kernel
theorem d_X12_ask_12 : decode cX12_ask 12 = .ok (.iload_n 1, 1) := by decide +kernel
theorem d_X12_ask_13 : decode cX12_ask 13 = .ok (.imul, 1) := by decide +kernel
theorem d_X12_ask_14 : decode cX12_ask 14 = .ok (.istore_n 2, 1) := by decide +kernel
theorem d_X12_ask_15 : decode cX12_ask 15 = .ok (.aload_n 0, 1) := by decide +kernel
theorem d_X12_ask_16 : decode cX12_ask 16 = .ok (.invokevirtual 198, 3) := by decide +kernel
theorem d_X12_ask_19 : decode cX12_ask 19 = .ok (.aload_n 0, 1) := by decide +kernel
theorem d_X12_ask_20 : decode cX12_ask 20 = .ok (.getfield 13, 3) := by decide +kernel
theorem d_X12_ask_23 : decode cX12_ask 23 = .ok (.iload_n 2, 1) := by decide +kernel
theorem d_X12_ask_24 : decode cX12_ask 24 = .ok (.iaload, 1) := by decide +kernel
theorem d_X12_ask_25 : decode cX12_ask 25 = .ok (.iconst 1, 1) := by decide +kernel
theorem d_X12_ask_26 : decode cX12_ask 26 = .ok (.if_icmp .ge 9, 3) := by decide +kernel
theorem d_X12_ask_29 : decode cX12_ask 29 = .ok (.aload_n 0, 1) := by decide +kernel
theorem d_X12_ask_30 : decode cX12_ask 30 = .ok (.iload_n 2, 1) := by decide +kernel
theorem d_X12_ask_31 : decode cX12_ask 31 = .ok (.invokevirtual 216, 3) := by decide +kernel
theorem d_X12_ask_34 : decode cX12_ask 34 = .ok (.ireturn, 1) := by decide +kernel
theorem d_X12_ask_35 : decode cX12_ask 35 = .ok (.aload_n 0, 1) := by decide +kernel
theorem d_X12_ask_36 : decode cX12_ask 36 = .ok (.iload_n 2, 1) := by decide +kernel
theorem d_X12_ask_37 : decode cX12_ask 37 = .ok (.iconst 0, 1) := by decide +kernel
theorem d_X12_ask_38 : decode cX12_ask 38 = .ok (.invokevirtual 219, 3) := by decide +kernel
theorem d_X12_ask_41 : decode cX12_ask 41 = .ok (.istore_n 3, 1) := by decide +kernel
theorem d_X12_ask_42 : decode cX12_ask 42 = .ok (.iconst 0, 1) := by decide +kernel
theorem d_X12_ask_43 : decode cX12_ask 43 = .ok (.istore 4, 2) := by decide +kernel
theorem d_X12_ask_45 : decode cX12_ask 45 = .ok (.iload 4, 2) := by decide +kernel
theorem d_X12_ask_47 : decode cX12_ask 47 = .ok (.aload_n 0, 1) := by decide +kernel
theorem d_X12_ask_48 : decode cX12_ask 48 = .ok (.invokevirtual 169, 3) := by decide +kernel
theorem d_X12_ask_51 : decode cX12_ask 51 = .ok (.if_icmp .ge 30, 3) := by decide +kernel
theorem d_X12_ask_54 : decode cX12_ask 54 = .ok (.aload_n 0, 1) := by decide +kernel
theorem d_X12_ask_55 : decode cX12_ask 55 = .ok (.getfield 31, 3) := by decide +kernel
theorem d_X12_ask_58 : decode cX12_ask 58 = .ok (.iconst 0, 1) := by decide +kernel
theorem d_X12_ask_59 : decode cX12_ask 59 = .ok (.iload 4, 2) := by decide +kernel
theorem d_X12_ask_61 : decode cX12_ask 61 = .ok (.iastore, 1) := by decide +kernel
theorem d_X12_ask_62 : decode cX12_ask 62 = .ok (.aload_n 0, 1) := by decide +kernel
theorem d_X12_ask_63 : decode cX12_ask 63 = .ok (.iload_n 2, 1) := by decide +kernel
theorem d_X12_ask_64 : decode cX12_ask 64 = .ok (.iconst 0, 1) := by decide +kernel
theorem d_X12_ask_65 : decode cX12_ask 65 = .ok (.iload_n 3, 1) := by decide +kernel
theorem d_X12_ask_66 : decode cX12_ask 66 = .ok (.aload_n 0, 1) := by decide +kernel
theorem d_X12_ask_67 : decode cX12_ask 67 = .ok (.iload_n 2, 1) := by decide +kernel
theorem d_X12_ask_68 : decode cX12_ask 68 = .ok (.invokevirtual 232, 3) := by decide +kernel
theorem d_X12_ask_71 : decode cX12_ask 71 = .ok (.invokevirtual 222, 3) := by decide +kernel
theorem d_X12_ask_74 : decode cX12_ask 74 = .ok (.istore_n 3, 1) := by decide +kernel
theorem d_X12_ask_75 : decode cX12_ask 75 = .ok (.iinc 4 1, 3) := by decide +kernel
theorem d_X12_ask_78 : decode cX12_ask 78 = .ok (.goto (-33), 3) := by decide +kernel
theorem d_X12_ask_81 : decode cX12_ask 81 = .ok (.iload_n 3, 1) := by decide +kernel
theorem d_X12_ask_82 : decode cX12_ask 82 = .ok (.ireturn, 1) := by decide +kernel
theorem b_X12_ask_0 {X : cX} {d : Nat} {μ : mM} {K : Option Value → mM → Prop} {r0 : Nat} {l1 : Int32} (hw12_r0 : WF12 μ r0) (hs : e_X12_in μ l1.toInt64 0 (((iv μ r0 2) - 1).toInt64) = 0 ∨ e_X12_in μ l1.toInt64 0 (((iv μ r0 2) - 1).toInt64) = 1) (hc_routesAll : ¬ (e_X12_isFormula μ r0 l1) = 0 → Ct X (Rm (d + 5)) mX12_routesAll [.ref r0] μ (fun r μ2 => G X (Rm (d + 6)) mX12_ask 19 [(0, .ref r0), (2, .int ((48 : Int32) * l1))] (r.toList ++ []) μ2 0 0 K)) (hK : (e_X12_isFormula μ r0 l1) = 0 → K (some (.int (-1))) μ) : G X (Rm (d + 6)) mX12_ask 0 [(0, .ref r0), (1, .int l1)] [] μ 0 0 K := by
  refine G_aload_n d_X12_ask_0 rfl 0 rfl ?_
  refine G_iload_n d_X12_ask_1 rfl 1 rfl ?_
  refine G_callV (M' := mX12_isFormula) (R' := (Rm (d + 5))) (S := []) [.int l1] 12 (w12_kd hw12_r0) cok12 rfl ok_X12_isFormula ml_X12_229 pn_X12_isFormula (ru_Rm (by decide)) (Nat.le_of_ble_eq_true rfl) d_X12_ask_2 (s_X12_isFormula (μ := μ)  hw12_r0 hs ?_)
  show G X (Rm (d + 6)) mX12_ask 5 [(0, .ref r0), (1, .int l1)] [.int (e_X12_isFormula μ r0 l1)] μ 0 0 K
  refine G_if_ne (tgt := 10) d_X12_ask_5 rfl (fun c0 => ?_) (fun c0 => ?_)
  ·
    refine G_bipush d_X12_ask_10 bp_48 ?_
    refine G_iload_n d_X12_ask_12 rfl 1 rfl ?_
    refine G_imul d_X12_ask_13 ?_
    refine G_istore_n (L' := [(2, .int ((48 : Int32) * l1)), (0, .ref r0), (1, .int l1)]) d_X12_ask_14 rfl (by decide) rfl ?_
    refine G_aload_n d_X12_ask_15 rfl 1 rfl ?_
    refine G_sub (L' := [(0, .ref r0), (2, .int ((48 : Int32) * l1))]) [1, 0] rfl ?_
    refine G_callV (M' := mX12_routesAll) (R' := (Rm (d + 5))) (S := []) [] 12 (w12_kd hw12_r0) cok12 rfl ok_X12_routesAll ml_X12_198 pn_X12_routesAll (ru_Rm (by decide)) (Nat.le_of_ble_eq_true rfl) d_X12_ask_16 ?_
    exact (hc_routesAll c0)
  ·
    refine G_iconst d_X12_ask_8 ic_m1 ?_
    exact G_iret rfl rfl rfl d_X12_ask_9 (hK c0)
theorem b_X12_ask_19 {X : cX} {d : Nat} {μ : mM} {K : Option Value → mM → Prop} {r0 : Nat} {i2 : Nat} (hw12_r0 : WF12 μ r0) (hb : i2 < 192) (hs : (1 : Int32) ≤ (iv μ (r0 + 2) i2) → (i2 + 1) < 192) (h : (1 : Int32) ≤ (iv μ (r0 + 2) i2) → G X (Rm (d + 6)) mX12_ask 45 [(0, .ref r0), (2, .int (nI i2)), (3, .int (e_X12_begins μ r0 i2 0)), (4, .int (nI 0))] [] μ 0 0 K) (hc_itemsOf : ¬ (1 : Int32) ≤ (iv μ (r0 + 2) i2) → Ct X (Rm (d + 5)) mX12_itemsOf [.ref r0, .int (nI i2)] μ (fun r μ2 => G X (Rm (d + 6)) mX12_ask 34 [] (r.toList ++ []) μ2 0 0 K)) : G X (Rm (d + 6)) mX12_ask 19 [(0, .ref r0), (2, .int (nI i2))] [] μ 0 0 K := by
  refine G_aload_n d_X12_ask_19 rfl 0 rfl ?_
  refine G_getR (r := r0 + 2) 12 1 (w12_kd hw12_r0) (w12_f1 hw12_r0) cok12 (by decide) rfl fl_X12_13 d_X12_ask_20 ?_
  refine G_iload_n d_X12_ask_23 rfl 1 rfl ?_
  refine G_iald i2 (w12_k1 hw12_r0) rfl hb d_X12_ask_24 ?_
  refine G_iconst d_X12_ask_25 ic_1 ?_
  refine G_icmp_ge (tgt := 35) d_X12_ask_26 rfl (fun c0 => ?_) (fun c0 => ?_)
  ·
    refine G_aload_n d_X12_ask_35 rfl 0 rfl ?_
    refine G_iload_n d_X12_ask_36 rfl 1 rfl ?_
    refine G_iconst d_X12_ask_37 ic_0 ?_
    refine G_callV (M' := mX12_begins) (R' := (Rm (d + 5))) (S := []) [.int (nI i2), .int 0] 12 (w12_kd hw12_r0) cok12 rfl ok_X12_begins ml_X12_219 pn_X12_begins (ru_Rm (by decide)) (Nat.le_of_ble_eq_true rfl) d_X12_ask_38 (s_X12_begins (μ := μ) (i1 := i2) hw12_r0 (hs c0) ?_)
    show G X (Rm (d + 6)) mX12_ask 41 [(0, .ref r0), (2, .int (nI i2))] [.int (e_X12_begins μ r0 i2 0)] μ 0 0 K
    refine G_istore_n (L' := [(3, .int (e_X12_begins μ r0 i2 0)), (0, .ref r0), (2, .int (nI i2))]) d_X12_ask_41 rfl (by decide) rfl ?_
    refine G_iconst d_X12_ask_42 ic_0 ?_
    refine G_istore (L' := [(4, .int (nI 0)), (3, .int (e_X12_begins μ r0 i2 0)), (0, .ref r0), (2, .int (nI i2))]) d_X12_ask_43 (by decide) rfl ?_
    refine G_sub (L' := [(0, .ref r0), (2, .int (nI i2)), (3, .int (e_X12_begins μ r0 i2 0)), (4, .int (nI 0))]) [2, 3, 1, 0] rfl ?_
    exact (h c0)
  ·
    refine G_aload_n d_X12_ask_29 rfl 0 rfl ?_
    refine G_iload_n d_X12_ask_30 rfl 1 rfl ?_
    refine G_sub (L' := []) [] rfl ?_
    refine G_callV (M' := mX12_itemsOf) (R' := (Rm (d + 5))) (S := []) [.int (nI i2)] 12 (w12_kd hw12_r0) cok12 rfl ok_X12_itemsOf ml_X12_216 pn_X12_itemsOf (ru_Rm (by decide)) (Nat.le_of_ble_eq_true rfl) d_X12_ask_31 ?_
    exact (hc_itemsOf c0)
theorem b_X12_ask_34 {X : cX} {d : Nat} {μ : mM} {K : Option Value → mM → Prop} {v0 : Int32} (hK : K (some (.int v0)) μ) : G X (Rm (d + 6)) mX12_ask 34 [] [.int v0] μ 0 0 K := by
  exact G_iret rfl rfl rfl d_X12_ask_34 hK
theorem b_X12_ask_45 {X : cX} {d : Nat} {μ : mM} {K : Option Value → mM → Prop} {r0 : Nat} {l2 : Int32} {l3 : Int32} {l4 : Int32} (hw12_r0 : WF12 μ r0) (hK : (e_X12_nodes μ r0) ≤ l4 → K (some (.int l3)) μ) (hc_secondOf : ¬ (e_X12_nodes μ r0) ≤ l4 → Ct X (Rm (d + 5)) mX12_secondOf [.ref r0, .int l2] (wi μ (r0 + 8) 0 l4) (fun r μ2 => G X (Rm (d + 6)) mX12_ask 71 [(0, .ref r0), (2, .int l2), (4, .int l4)] (r.toList ++ [.int l3, .int 0, .int l2, .ref r0]) μ2 0 0 K)) : G X (Rm (d + 6)) mX12_ask 45 [(0, .ref r0), (2, .int l2), (3, .int l3), (4, .int l4)] [] μ 0 0 K := by
  refine G_iload d_X12_ask_45 3 rfl ?_
  refine G_aload_n d_X12_ask_47 rfl 0 rfl ?_
  refine G_callV (M' := mX12_nodes) (R' := (Rm (d + 5))) (S := [.int l4]) [] 12 (w12_kd hw12_r0) cok12 rfl ok_X12_nodes ml_X12_169 pn_X12_nodes (ru_Rm (by decide)) (Nat.le_of_ble_eq_true rfl) d_X12_ask_48 (s_X12_nodes (μ := μ)  hw12_r0 ?_)
  show G X (Rm (d + 6)) mX12_ask 51 [(0, .ref r0), (2, .int l2), (3, .int l3), (4, .int l4)] [.int (e_X12_nodes μ r0), .int l4] μ 0 0 K
  refine G_icmp_ge (tgt := 81) d_X12_ask_51 rfl (fun c0 => ?_) (fun c0 => ?_)
  ·
    refine G_iload_n d_X12_ask_81 rfl 2 rfl ?_
    exact G_iret rfl rfl rfl d_X12_ask_82 (hK c0)
  ·
    refine G_aload_n d_X12_ask_54 rfl 0 rfl ?_
    refine G_getR (r := r0 + 8) 12 18 (w12_kd hw12_r0) (w12_f18 hw12_r0) cok12 (by decide) rfl fl_X12_31 d_X12_ask_55 ?_
    refine G_iconst d_X12_ask_58 ic_0 ?_
    refine G_iload d_X12_ask_59 3 rfl ?_
    refine G_iast 0 (w12_k18 hw12_r0) rfl (by decide) d_X12_ask_61 ?_
    refine G_aload_n d_X12_ask_62 rfl 0 rfl ?_
    refine G_iload_n d_X12_ask_63 rfl 1 rfl ?_
    refine G_iconst d_X12_ask_64 ic_0 ?_
    refine G_iload_n d_X12_ask_65 rfl 2 rfl ?_
    refine G_aload_n d_X12_ask_66 rfl 0 rfl ?_
    refine G_iload_n d_X12_ask_67 rfl 1 rfl ?_
    refine G_sub (L' := [(0, .ref r0), (2, .int l2), (4, .int l4)]) [0, 1, 3] rfl ?_
    refine G_callV (M' := mX12_secondOf) (R' := (Rm (d + 5))) (S := [.int l3, .int 0, .int l2, .ref r0]) [.int l2] 12 (w12_kd hw12_r0) cok12 rfl ok_X12_secondOf ml_X12_232 pn_X12_secondOf (ru_Rm (by decide)) (Nat.le_of_ble_eq_true rfl) d_X12_ask_68 ?_
    exact (hc_secondOf c0)
theorem b_X12_ask_71 {X : cX} {d : Nat} {μ : mM} {K : Option Value → mM → Prop} {r0 : Nat} {l2 : Int32} {i4 : Nat} {q0 : Nat} {v1 : Int32} {v2 : Int32} {v3 : Int32} {v4 : Int32} {j0 : Nat} (hi_j0 : v1 = nI j0) (hw12_q0 : WF12 μ q0) (hs : (j0 + 1) < 192) (h : G X (Rm (d + 6)) mX12_ask 45 [(0, .ref r0), (2, .int l2), (3, .int (e_X12_joined μ q0 j0 v2 v3 v4)), (4, .int (nI (i4 + 1)))] [] μ 0 0 K) : G X (Rm (d + 6)) mX12_ask 71 [(0, .ref r0), (2, .int l2), (4, .int (nI i4))] [.int v4, .int v3, .int v2, .int v1, .ref q0] μ 0 0 K := by
  refine G_stk (S' := [.int v4, .int v3, .int v2, .int (nI j0), .ref q0]) (by rw [hi_j0]) ?_
  refine G_callV (M' := mX12_joined) (R' := (Rm (d + 5))) (S := []) [.int (nI j0), .int v2, .int v3, .int v4] 12 (w12_kd hw12_q0) cok12 rfl ok_X12_joined ml_X12_222 pn_X12_joined (ru_Rm (by decide)) (Nat.le_of_ble_eq_true rfl) d_X12_ask_71 (s_X12_joined (μ := μ) (i1 := j0) hw12_q0 hs ?_)
  show G X (Rm (d + 6)) mX12_ask 74 [(0, .ref r0), (2, .int l2), (4, .int (nI i4))] [.int (e_X12_joined μ q0 j0 v2 v3 v4)] μ 0 0 K
  refine G_istore_n (L' := [(3, .int (e_X12_joined μ q0 j0 v2 v3 v4)), (0, .ref r0), (2, .int l2), (4, .int (nI i4))]) d_X12_ask_74 rfl (by decide) rfl ?_
  refine G_iinc (L' := [(4, .int (nI (i4 + 1))), (3, .int (e_X12_joined μ q0 j0 v2 v3 v4)), (0, .ref r0), (2, .int l2)]) d_X12_ask_75 3 rfl (inc1 i4) (by decide) rfl ?_
  refine G_goto (tgt := 45) d_X12_ask_78 rfl ?_
  refine G_sub (L' := [(0, .ref r0), (2, .int l2), (3, .int (e_X12_joined μ q0 j0 v2 v3 v4)), (4, .int (nI (i4 + 1)))]) [2, 3, 1, 0] rfl ?_
  exact h
theorem d_X12_formula_0 : decode cX12_formula 0 = .ok (.aload_n 0, 1) := by decide +kernel
theorem d_X12_formula_1 : decode cX12_formula 1 = .ok (.iload_n 1, 1) := by decide +kernel
theorem d_X12_formula_2 : decode cX12_formula 2 = .ok (.invokevirtual 229, 3) := by decide +kernel
theorem d_X12_formula_5 : decode cX12_formula 5 = .ok (.ifCond .eq 29, 3) := by decide +kernel
theorem d_X12_formula_8 : decode cX12_formula 8 = .ok (.iload_n 2, 1) := by decide +kernel
theorem d_X12_formula_9 : decode cX12_formula 9 = .ok (.i2l, 1) := by decide +kernel
theorem d_X12_formula_10 : decode cX12_formula 10 = .ok (.lconst 0, 1) := by decide +kernel
theorem d_X12_formula_11 : decode cX12_formula 11 = .ok (.ldc2_w 134, 3) := by decide +kernel
theorem d_X12_formula_14 : decode cX12_formula 14 = .ok (.invokestatic 61, 3) := by decide +kernel
theorem d_X12_formula_17 : decode cX12_formula 17 = .ok (.ifCond .eq 17, 3) := by decide +kernel
theorem d_X12_formula_20 : decode cX12_formula 20 = .ok (.aload_n 0, 1) := by decide +kernel
theorem d_X12_formula_21 : decode cX12_formula 21 = .ok (.getfield 13, 3) := by decide +kernel
theorem d_X12_formula_24 : decode cX12_formula 24 = .ok (.bipush 48, 2) := by decide +kernel
theorem d_X12_formula_26 : decode cX12_formula 26 = .ok (.iload_n 1, 1) := by decide +kernel
theorem d_X12_formula_27 : decode cX12_formula 27 = .ok (.imul, 1) := by decide +kernel
theorem d_X12_formula_28 : decode cX12_formula 28 = .ok (.iload_n 2, 1) := by decide +kernel
theorem d_X12_formula_29 : decode cX12_formula 29 = .ok (.iadd, 1) := by decide +kernel
theorem d_X12_formula_30 : decode cX12_formula 30 = .ok (.iaload, 1) := by decide +kernel
theorem d_X12_formula_31 : decode cX12_formula 31 = .ok (.goto 4, 3) := by decide +kernel
theorem d_X12_formula_34 : decode cX12_formula 34 = .ok (.iconst (-1), 1) := by decide +kernel
theorem d_X12_formula_35 : decode cX12_formula 35 = .ok (.ireturn, 1) := by decide +kernel
theorem b_X12_formula_0 {X : cX} {d : Nat} {μ : mM} {K : Option Value → mM → Prop} {r0 : Nat} {i1 : Nat} {i2 : Nat} (hw12_r0 : WF12 μ r0) (hs : e_X12_in μ (nI i1).toInt64 0 (((iv μ r0 2) - 1).toInt64) = 0 ∨ e_X12_in μ (nI i1).toInt64 0 (((iv μ r0 2) - 1).toInt64) = 1) (hK : (e_X12_isFormula μ r0 (nI i1)) = 0 → K (some (.int (-1))) μ) (hK_2 : ¬ (e_X12_isFormula μ r0 (nI i1)) = 0 → (e_X12_in μ ((nI i2).toInt64) 0 3) = 0 → K (some (.int (-1))) μ) (hb : ¬ (e_X12_isFormula μ r0 (nI i1)) = 0 → ¬ (e_X12_in μ ((nI i2).toInt64) 0 3) = 0 → ((48 * i1) + i2) < 192) (hK_3 : ¬ (e_X12_isFormula μ r0 (nI i1)) = 0 → ¬ (e_X12_in μ ((nI i2).toInt64) 0 3) = 0 → K (some (.int (iv μ (r0 + 2) ((48 * i1) + i2)))) μ) : G X (Rm (d + 2)) mX12_formula 0 [(0, .ref r0), (1, .int (nI i1)), (2, .int (nI i2))] [] μ 0 0 K := by
  refine G_aload_n d_X12_formula_0 rfl 0 rfl ?_
  refine G_iload_n d_X12_formula_1 rfl 1 rfl ?_
  refine G_callV (M' := mX12_isFormula) (R' := (Rm (d + 1))) (S := []) [.int (nI i1)] 12 (w12_kd hw12_r0) cok12 rfl ok_X12_isFormula ml_X12_229 pn_X12_isFormula (ru_Rm (by decide)) (Nat.le_of_ble_eq_true rfl) d_X12_formula_2 (s_X12_isFormula (μ := μ)  hw12_r0 hs ?_)
  show G X (Rm (d + 2)) mX12_formula 5 [(0, .ref r0), (1, .int (nI i1)), (2, .int (nI i2))] [.int (e_X12_isFormula μ r0 (nI i1))] μ 0 0 K
  refine G_if_eq (tgt := 34) d_X12_formula_5 rfl (fun c0 => ?_) (fun c0 => ?_)
  ·
    refine G_iconst d_X12_formula_34 ic_m1 ?_
    exact G_iret rfl rfl rfl d_X12_formula_35 (hK c0)
  ·
    refine G_iload_n d_X12_formula_8 rfl 2 rfl ?_
    refine G_i2l (v := (nI i2).toInt64) d_X12_formula_9 rfl ?_
    refine G_lconst (v := 0) d_X12_formula_10 rfl ?_
    refine G_ldc2 kl_X12_134 d_X12_formula_11 ?_
    refine G_callS (M' := mX12_in) (R' := (Rm (d + 1))) (S := []) [.long ((nI i2).toInt64), .long 0, .long 3] ok_X12_in ml_X12_61 pn_X12_in (ru_Rm (by decide)) (Nat.le_of_ble_eq_true rfl) d_X12_formula_14 (s_X12_in (μ := μ)   ?_)
    show G X (Rm (d + 2)) mX12_formula 17 [(0, .ref r0), (1, .int (nI i1)), (2, .int (nI i2))] [.int (e_X12_in μ ((nI i2).toInt64) 0 3)] μ 0 0 K
    refine G_if_eq (tgt := 34) d_X12_formula_17 rfl (fun c1 => ?_) (fun c1 => ?_)
    ·
      refine G_iconst d_X12_formula_34 ic_m1 ?_
      exact G_iret rfl rfl rfl d_X12_formula_35 (hK_2 c0 c1)
    ·
      refine G_aload_n d_X12_formula_20 rfl 0 rfl ?_
      refine G_getR (r := r0 + 2) 12 1 (w12_kd hw12_r0) (w12_f1 hw12_r0) cok12 (by decide) rfl fl_X12_13 d_X12_formula_21 ?_
      refine G_bipush d_X12_formula_24 bp_48 ?_
      refine G_iload_n d_X12_formula_26 rfl 1 rfl ?_
      refine G_imul d_X12_formula_27 ?_
      refine G_iload_n d_X12_formula_28 rfl 2 rfl ?_
      refine G_iadd d_X12_formula_29 ?_
      refine G_iald ((48 * i1) + i2) (w12_k1 hw12_r0) (nadd (nmul rfl rfl) rfl) (hb c0 c1) d_X12_formula_30 ?_
      refine G_goto (tgt := 35) d_X12_formula_31 rfl ?_
      exact G_iret rfl rfl rfl d_X12_formula_35 (hK_3 c0 c1)
def e_X12_formula (μ : mM) (r0 : Nat) (i1 : Nat) (i2 : Nat) : Int32 := (if (e_X12_isFormula μ r0 (nI i1)) = 0 then (-1) else (if (e_X12_in μ ((nI i2).toInt64) 0 3) = 0 then (-1) else (iv μ (r0 + 2) ((48 * i1) + i2))))
theorem s_X12_formula {X : cX} {d : Nat} {μ : mM} {K : Option Value → mM → Prop} {r0 : Nat} {i1 : Nat} {i2 : Nat} (hw12_r0 : WF12 μ r0) (hs : e_X12_in μ (nI i1).toInt64 0 (((iv μ r0 2) - 1).toInt64) = 0 ∨ e_X12_in μ (nI i1).toInt64 0 (((iv μ r0 2) - 1).toInt64) = 1) (hb : ¬ (e_X12_isFormula μ r0 (nI i1)) = 0 → ¬ (e_X12_in μ ((nI i2).toInt64) 0 3) = 0 → ((48 * i1) + i2) < 192) (hK : K (some (.int (e_X12_formula μ r0 i1 i2))) μ) : Ct X (Rm (d + 2)) mX12_formula [.ref r0, .int (nI i1), .int (nI i2)] μ K := Ct_of rfl (Nat.le_of_ble_eq_true rfl) (G_sub [0, 1, 2] rfl (b_X12_formula_0 hw12_r0 hs (fun c0 => by unfold e_X12_formula at hK; rw [if_pos c0] at hK; exact hK) (fun c0 c1 => by unfold e_X12_formula at hK; rw [if_neg c0, if_pos c1] at hK; exact hK) hb (fun c0 c1 => by unfold e_X12_formula at hK; rw [if_neg c0, if_neg c1] at hK; exact hK)))
theorem d_X12_comes_0 : decode cX12_comes 0 = .ok (.aload_n 0, 1) := by decide +kernel
theorem d_X12_comes_1 : decode cX12_comes 1 = .ok (.invokevirtual 169, 3) := by decide +kernel
theorem d_X12_comes_4 : decode cX12_comes 4 = .ok (.istore_n 2, 1) := by decide +kernel
theorem d_X12_comes_5 : decode cX12_comes 5 = .ok (.aload_n 0, 1) := by decide +kernel
theorem d_X12_comes_6 : decode cX12_comes 6 = .ok (.getfield 7, 3) := by decide +kernel
theorem d_X12_comes_9 : decode cX12_comes 9 = .ok (.iload_n 2, 1) := by decide +kernel
theorem d_X12_comes_10 : decode cX12_comes 10 = .ok (.iload_n 1, 1) := by decide +kernel
theorem d_X12_comes_11 : decode cX12_comes 11 = .ok (.iastore, 1) := by decide +kernel
theorem d_X12_comes_12 : decode cX12_comes 12 = .ok (.iconst 0, 1) := by decide +kernel
theorem d_X12_comes_13 : decode cX12_comes 13 = .ok (.istore_n 3, 1) := by decide +kernel
theorem d_X12_comes_14 : decode cX12_comes 14 = .ok (.iload_n 3, 1) := by decide +kernel
theorem d_X12_comes_15 : decode cX12_comes 15 = .ok (.bipush 6, 2) := by decide +kernel
theorem d_X12_comes_17 : decode cX12_comes 17 = .ok (.if_icmp .ge 39, 3) := by decide +kernel
theorem d_X12_comes_20 : decode cX12_comes 20 = .ok (.aload_n 0, 1) := by decide +kernel
theorem d_X12_comes_21 : decode cX12_comes 21 = .ok (.getfield 7, 3) := by decide +kernel
theorem d_X12_comes_24 : decode cX12_comes 24 = .ok (.bipush 24, 2) := by decide +kernel
theorem d_X12_comes_26 : decode cX12_comes 26 = .ok (.bipush 6, 2) := by decide +kernel
theorem d_X12_comes_28 : decode cX12_comes 28 = .ok (.iload_n 2, 1) := by decide +kernel
theorem d_X12_comes_29 : decode cX12_comes 29 = .ok (.imul, 1) := by decide +kernel
theorem d_X12_comes_30 : decode cX12_comes 30 = .ok (.iadd, 1) := by decide +kernel
theorem d_X12_comes_31 : decode cX12_comes 31 = .ok (.iload_n 3, 1) := by decide +kernel
theorem d_X12_comes_32 : decode cX12_comes 32 = .ok (.iadd, 1) := by decide +kernel
theorem d_X12_comes_33 : decode cX12_comes 33 = .ok (.iconst 0, 1) := by decide +kernel
theorem d_X12_comes_34 : decode cX12_comes 34 = .ok (.iastore, 1) := by decide +kernel
theorem d_X12_comes_35 : decode cX12_comes 35 = .ok (.aload_n 0, 1) := by decide +kernel
theorem d_X12_comes_36 : decode cX12_comes 36 = .ok (.getfield 7, 3) := by decide +kernel
theorem d_X12_comes_39 : decode cX12_comes 39 = .ok (.bipush 24, 2) := by decide +kernel
theorem d_X12_comes_41 : decode cX12_comes 41 = .ok (.bipush 6, 2) := by decide +kernel
theorem d_X12_comes_43 : decode cX12_comes 43 = .ok (.iload_n 3, 1) := by decide +kernel
theorem d_X12_comes_44 : decode cX12_comes 44 = .ok (.imul, 1) := by decide +kernel
theorem d_X12_comes_45 : decode cX12_comes 45 = .ok (.iadd, 1) := by decide +kernel
theorem d_X12_comes_46 : decode cX12_comes 46 = .ok (.iload_n 2, 1) := by decide +kernel
theorem d_X12_comes_47 : decode cX12_comes 47 = .ok (.iadd, 1) := by decide +kernel
theorem d_X12_comes_48 : decode cX12_comes 48 = .ok (.iconst 0, 1) := by decide +kernel
theorem d_X12_comes_49 : decode cX12_comes 49 = .ok (.iastore, 1) := by decide +kernel
theorem d_X12_comes_50 : decode cX12_comes 50 = .ok (.iinc 3 1, 3) := by decide +kernel
theorem d_X12_comes_53 : decode cX12_comes 53 = .ok (.goto (-39), 3) := by decide +kernel
theorem d_X12_comes_56 : decode cX12_comes 56 = .ok (.iconst 0, 1) := by decide +kernel
theorem d_X12_comes_57 : decode cX12_comes 57 = .ok (.istore_n 3, 1) := by decide +kernel
theorem d_X12_comes_58 : decode cX12_comes 58 = .ok (.iload_n 3, 1) := by decide +kernel
theorem d_X12_comes_59 : decode cX12_comes 59 = .ok (.iconst 3, 1) := by decide +kernel
theorem d_X12_comes_60 : decode cX12_comes 60 = .ok (.if_icmp .ge 24, 3) := by decide +kernel
theorem d_X12_comes_63 : decode cX12_comes 63 = .ok (.aload_n 0, 1) := by decide +kernel
theorem d_X12_comes_64 : decode cX12_comes 64 = .ok (.getfield 7, 3) := by decide +kernel
theorem d_X12_comes_67 : decode cX12_comes 67 = .ok (.bipush 6, 2) := by decide +kernel
theorem d_X12_comes_69 : decode cX12_comes 69 = .ok (.bipush 6, 2) := by decide +kernel
theorem d_X12_comes_71 : decode cX12_comes 71 = .ok (.iload_n 3, 1) := by decide +kernel
theorem d_X12_comes_72 : decode cX12_comes 72 = .ok (.imul, 1) := by decide +kernel
theorem d_X12_comes_73 : decode cX12_comes 73 = .ok (.iadd, 1) := by decide +kernel
theorem d_X12_comes_74 : decode cX12_comes 74 = .ok (.iload_n 2, 1) := by decide +kernel
theorem d_X12_comes_75 : decode cX12_comes 75 = .ok (.iadd, 1) := by decide +kernel
theorem d_X12_comes_76 : decode cX12_comes 76 = .ok (.iconst 0, 1) := by decide +kernel
theorem d_X12_comes_77 : decode cX12_comes 77 = .ok (.iastore, 1) := by decide +kernel
theorem d_X12_comes_78 : decode cX12_comes 78 = .ok (.iinc 3 1, 3) := by decide +kernel
theorem d_X12_comes_81 : decode cX12_comes 81 = .ok (.goto (-23), 3) := by decide +kernel
theorem d_X12_comes_84 : decode cX12_comes 84 = .ok (.aload_n 0, 1) := by decide +kernel
theorem d_X12_comes_85 : decode cX12_comes 85 = .ok (.getfield 7, 3) := by decide +kernel
theorem d_X12_comes_88 : decode cX12_comes 88 = .ok (.bipush 60, 2) := by decide +kernel
theorem d_X12_comes_90 : decode cX12_comes 90 = .ok (.dup2, 1) := by decide +kernel
theorem d_X12_comes_91 : decode cX12_comes 91 = .ok (.iaload, 1) := by decide +kernel
theorem d_X12_comes_92 : decode cX12_comes 92 = .ok (.iconst 1, 1) := by decide +kernel
theorem d_X12_comes_93 : decode cX12_comes 93 = .ok (.iadd, 1) := by decide +kernel
theorem d_X12_comes_94 : decode cX12_comes 94 = .ok (.iastore, 1) := by decide +kernel
theorem d_X12_comes_95 : decode cX12_comes 95 = .ok (.return_, 1) := by decide +kernel
theorem b_X12_comes_0 {X : cX} {d : Nat} {μ : mM} {K : Option Value → mM → Prop} {r0 : Nat} {l1 : Int32} {j0 : Nat} (hw12_r0 : WF12 μ r0) (hi_j0 : e_X12_nodes μ r0 = nI j0) (hb : j0 < 366) (h : G X (Rm (d + 1)) mX12_comes 14 [(0, .ref r0), (2, .int (e_X12_nodes μ r0)), (3, .int (nI 0))] [] (wi μ (r0 + 1) j0 l1) 0 0 K) : G X (Rm (d + 1)) mX12_comes 0 [(0, .ref r0), (1, .int l1)] [] μ 0 0 K := by
  refine G_aload_n d_X12_comes_0 rfl 0 rfl ?_
  refine G_callV (M' := mX12_nodes) (R' := (Rm d)) (S := []) [] 12 (w12_kd hw12_r0) cok12 rfl ok_X12_nodes ml_X12_169 pn_X12_nodes (ru_Rm (by decide)) (Nat.le_of_ble_eq_true rfl) d_X12_comes_1 (s_X12_nodes (μ := μ)  hw12_r0 ?_)
  show G X (Rm (d + 1)) mX12_comes 4 [(0, .ref r0), (1, .int l1)] [.int (e_X12_nodes μ r0)] μ 0 0 K
  refine G_istore_n (L' := [(2, .int (e_X12_nodes μ r0)), (0, .ref r0), (1, .int l1)]) d_X12_comes_4 rfl (by decide) rfl ?_
  refine G_aload_n d_X12_comes_5 rfl 1 rfl ?_
  refine G_getR (r := r0 + 1) 12 0 (w12_kd hw12_r0) (w12_f0 hw12_r0) cok12 (by decide) rfl fl_X12_7 d_X12_comes_6 ?_
  refine G_iload_n d_X12_comes_9 rfl 0 rfl ?_
  refine G_iload_n d_X12_comes_10 rfl 2 rfl ?_
  refine G_iast j0 (w12_k0 hw12_r0) hi_j0 hb d_X12_comes_11 ?_
  refine G_iconst d_X12_comes_12 ic_0 ?_
  refine G_istore_n (L' := [(3, .int (nI 0)), (2, .int (e_X12_nodes μ r0)), (0, .ref r0), (1, .int l1)]) d_X12_comes_13 rfl (by decide) rfl ?_
  refine G_sub (L' := [(0, .ref r0), (2, .int (e_X12_nodes μ r0)), (3, .int (nI 0))]) [2, 1, 0] rfl ?_
  exact h
theorem b_X12_comes_14 {X : cX} {d : Nat} {μ : mM} {K : Option Value → mM → Prop} {r0 : Nat} {l2 : Int32} {i3 : Nat} {j0 : Nat} {j1 : Nat} (h : (6 : Int32) ≤ (nI i3) → G X (Rm (d + 1)) mX12_comes 58 [(0, .ref r0), (2, .int l2), (3, .int (nI 0))] [] μ 0 0 K) (hw12_r0 : WF12 μ r0) (hi_j0 : ¬ (6 : Int32) ≤ (nI i3) → ((24 : Int32) + ((6 : Int32) * l2)) + (nI i3) = nI j0) (hb : ¬ (6 : Int32) ≤ (nI i3) → j0 < 366) (hi_j1 : ¬ (6 : Int32) ≤ (nI i3) → ((24 : Int32) + ((6 : Int32) * (nI i3))) + l2 = nI j1) (hb_2 : ¬ (6 : Int32) ≤ (nI i3) → j1 < 366) (h_2 : ¬ (6 : Int32) ≤ (nI i3) → G X (Rm (d + 1)) mX12_comes 14 [(0, .ref r0), (2, .int l2), (3, .int (nI (i3 + 1)))] [] (wi (wi μ (r0 + 1) j0 0) (r0 + 1) j1 0) 0 0 K) : G X (Rm (d + 1)) mX12_comes 14 [(0, .ref r0), (2, .int l2), (3, .int (nI i3))] [] μ 0 0 K := by
  refine G_iload_n d_X12_comes_14 rfl 2 rfl ?_
  refine G_bipush d_X12_comes_15 bp_6 ?_
  refine G_icmp_ge (tgt := 56) d_X12_comes_17 rfl (fun c0 => ?_) (fun c0 => ?_)
  ·
    refine G_iconst d_X12_comes_56 ic_0 ?_
    refine G_istore_n (L' := [(3, .int (nI 0)), (0, .ref r0), (2, .int l2)]) d_X12_comes_57 rfl (by decide) rfl ?_
    refine G_sub (L' := [(0, .ref r0), (2, .int l2), (3, .int (nI 0))]) [1, 2, 0] rfl ?_
    exact (h c0)
  ·
    refine G_aload_n d_X12_comes_20 rfl 0 rfl ?_
    refine G_getR (r := r0 + 1) 12 0 (w12_kd hw12_r0) (w12_f0 hw12_r0) cok12 (by decide) rfl fl_X12_7 d_X12_comes_21 ?_
    refine G_bipush d_X12_comes_24 bp_24 ?_
    refine G_bipush d_X12_comes_26 bp_6 ?_
    refine G_iload_n d_X12_comes_28 rfl 1 rfl ?_
    refine G_imul d_X12_comes_29 ?_
    refine G_iadd d_X12_comes_30 ?_
    refine G_iload_n d_X12_comes_31 rfl 2 rfl ?_
    refine G_iadd d_X12_comes_32 ?_
    refine G_iconst d_X12_comes_33 ic_0 ?_
    refine G_iast j0 (w12_k0 hw12_r0) (hi_j0 c0) (hb c0) d_X12_comes_34 ?_
    refine G_aload_n d_X12_comes_35 rfl 0 rfl ?_
    refine G_getR (r := r0 + 1) 12 0 (w12_kd hw12_r0) (w12_f0 hw12_r0) cok12 (by decide) rfl fl_X12_7 d_X12_comes_36 ?_
    refine G_bipush d_X12_comes_39 bp_24 ?_
    refine G_bipush d_X12_comes_41 bp_6 ?_
    refine G_iload_n d_X12_comes_43 rfl 2 rfl ?_
    refine G_imul d_X12_comes_44 ?_
    refine G_iadd d_X12_comes_45 ?_
    refine G_iload_n d_X12_comes_46 rfl 1 rfl ?_
    refine G_iadd d_X12_comes_47 ?_
    refine G_iconst d_X12_comes_48 ic_0 ?_
    refine G_iast j1 (w12_k0 hw12_r0) (hi_j1 c0) (hb_2 c0) d_X12_comes_49 ?_
    refine G_iinc (L' := [(3, .int (nI (i3 + 1))), (0, .ref r0), (2, .int l2)]) d_X12_comes_50 2 rfl (inc1 i3) (by decide) rfl ?_
    refine G_goto (tgt := 14) d_X12_comes_53 rfl ?_
    refine G_sub (L' := [(0, .ref r0), (2, .int l2), (3, .int (nI (i3 + 1)))]) [1, 2, 0] rfl ?_
    exact (h_2 c0)
theorem b_X12_comes_58 {X : cX} {d : Nat} {μ : mM} {K : Option Value → mM → Prop} {r0 : Nat} {l2 : Int32} {i3 : Nat} {j0 : Nat} (hw12_r0 : WF12 μ r0) (hK : (3 : Int32) ≤ (nI i3) → K none (wi μ (r0 + 1) 60 ((iv μ (r0 + 1) 60) + 1))) (hi_j0 : ¬ (3 : Int32) ≤ (nI i3) → ((6 : Int32) + ((6 : Int32) * (nI i3))) + l2 = nI j0) (hb : ¬ (3 : Int32) ≤ (nI i3) → j0 < 366) (h : ¬ (3 : Int32) ≤ (nI i3) → G X (Rm (d + 1)) mX12_comes 58 [(0, .ref r0), (2, .int l2), (3, .int (nI (i3 + 1)))] [] (wi μ (r0 + 1) j0 0) 0 0 K) : G X (Rm (d + 1)) mX12_comes 58 [(0, .ref r0), (2, .int l2), (3, .int (nI i3))] [] μ 0 0 K := by
  refine G_iload_n d_X12_comes_58 rfl 2 rfl ?_
  refine G_iconst d_X12_comes_59 ic_3 ?_
  refine G_icmp_ge (tgt := 84) d_X12_comes_60 rfl (fun c0 => ?_) (fun c0 => ?_)
  ·
    refine G_aload_n d_X12_comes_84 rfl 0 rfl ?_
    refine G_getR (r := r0 + 1) 12 0 (w12_kd hw12_r0) (w12_f0 hw12_r0) cok12 (by decide) rfl fl_X12_7 d_X12_comes_85 ?_
    refine G_bipush d_X12_comes_88 bp_60 ?_
    refine G_dup2_11 d_X12_comes_90 rfl rfl ?_
    refine G_iald 60 (w12_k0 hw12_r0) rfl (by decide) d_X12_comes_91 ?_
    refine G_iconst d_X12_comes_92 ic_1 ?_
    refine G_iadd d_X12_comes_93 ?_
    refine G_iast 60 (w12_k0 hw12_r0) rfl (by decide) d_X12_comes_94 ?_
    exact G_vret rfl rfl rfl d_X12_comes_95 (hK c0)
  ·
    refine G_aload_n d_X12_comes_63 rfl 0 rfl ?_
    refine G_getR (r := r0 + 1) 12 0 (w12_kd hw12_r0) (w12_f0 hw12_r0) cok12 (by decide) rfl fl_X12_7 d_X12_comes_64 ?_
    refine G_bipush d_X12_comes_67 bp_6 ?_
    refine G_bipush d_X12_comes_69 bp_6 ?_
    refine G_iload_n d_X12_comes_71 rfl 2 rfl ?_
    refine G_imul d_X12_comes_72 ?_
    refine G_iadd d_X12_comes_73 ?_
    refine G_iload_n d_X12_comes_74 rfl 1 rfl ?_
    refine G_iadd d_X12_comes_75 ?_
    refine G_iconst d_X12_comes_76 ic_0 ?_
    refine G_iast j0 (w12_k0 hw12_r0) (hi_j0 c0) (hb c0) d_X12_comes_77 ?_
    refine G_iinc (L' := [(3, .int (nI (i3 + 1))), (0, .ref r0), (2, .int l2)]) d_X12_comes_78 2 rfl (inc1 i3) (by decide) rfl ?_
    refine G_goto (tgt := 58) d_X12_comes_81 rfl ?_
    refine G_sub (L' := [(0, .ref r0), (2, .int l2), (3, .int (nI (i3 + 1)))]) [1, 2, 0] rfl ?_
    exact (h c0)
theorem d_X12_add_0 : decode cX12_add 0 = .ok (.iload_n 1, 1) := by decide +kernel
theorem d_X12_add_1 : decode cX12_add 1 = .ok (.invokestatic 235, 3) := by decide +kernel
theorem d_X12_add_4 : decode cX12_add 4 = .ok (.ifCond .ne 5, 3) := by decide +kernel
theorem d_X12_add_7 : decode cX12_add 7 = .ok (.iconst (-1), 1) := by decide +kernel
theorem d_X12_add_8 : decode cX12_add 8 = .ok (.ireturn, 1) := by decide +kernel
theorem d_X12_add_9 : decode cX12_add 9 = .ok (.aload_n 0, 1) := by decide +kernel
theorem d_X12_add_10 : decode cX12_add 10 = .ok (.invokevirtual 169, 3) := by decide +kernel
theorem d_X12_add_13 : decode cX12_add 13 = .ok (.bipush 6, 2) := by decide +kernel
theorem d_X12_add_15 : decode cX12_add 15 = .ok (.if_icmp .ne 6, 3) := by decide +kernel
theorem d_X12_add_18 : decode cX12_add 18 = .ok (.bipush (-3), 2) := by decide +kernel
theorem d_X12_add_20 : decode cX12_add 20 = .ok (.ireturn, 1) := by decide +kernel
theorem d_X12_add_21 : decode cX12_add 21 = .ok (.aload_n 0, 1) := by decide +kernel
theorem d_X12_add_22 : decode cX12_add 22 = .ok (.iload_n 1, 1) := by decide +kernel
theorem d_X12_add_23 : decode cX12_add 23 = .ok (.invokevirtual 238, 3) := by decide +kernel
theorem d_X12_add_26 : decode cX12_add 26 = .ok (.aload_n 0, 1) := by decide +kernel
theorem d_X12_add_27 : decode cX12_add 27 = .ok (.invokevirtual 169, 3) := by decide +kernel
theorem d_X12_add_30 : decode cX12_add 30 = .ok (.ireturn, 1) := by decide +kernel
theorem b_X12_add_0 {X : cX} {d : Nat} {μ : mM} {K : Option Value → mM → Prop} {r0 : Nat} {l1 : Int32} (hs : e_X12_in μ l1.toInt64 0 1 = 0 ∨ e_X12_in μ l1.toInt64 0 1 = 1) (hw12_r0 : WF12 μ r0) (hc_comes : ¬ (e_X12_isFlag μ l1) = 0 → ¬ (e_X12_nodes μ r0) = (6 : Int32) → Ct X (Rm (d + 1)) mX12_comes [.ref r0, .int l1] μ (fun r μ2 => G X (Rm (d + 2)) mX12_add 26 [(0, .ref r0)] (r.toList ++ []) μ2 0 0 K)) (hK : ¬ (e_X12_isFlag μ l1) = 0 → (e_X12_nodes μ r0) = (6 : Int32) → K (some (.int (-3))) μ) (hK_2 : (e_X12_isFlag μ l1) = 0 → K (some (.int (-1))) μ) : G X (Rm (d + 2)) mX12_add 0 [(0, .ref r0), (1, .int l1)] [] μ 0 0 K := by
  refine G_iload_n d_X12_add_0 rfl 1 rfl ?_
  refine G_callS (M' := mX12_isFlag) (R' := (Rm (d + 1))) (S := []) [.int l1] ok_X12_isFlag ml_X12_235 pn_X12_isFlag (ru_Rm (by decide)) (Nat.le_of_ble_eq_true rfl) d_X12_add_1 (s_X12_isFlag (μ := μ)  hs ?_)
  show G X (Rm (d + 2)) mX12_add 4 [(0, .ref r0), (1, .int l1)] [.int (e_X12_isFlag μ l1)] μ 0 0 K
  refine G_if_ne (tgt := 9) d_X12_add_4 rfl (fun c0 => ?_) (fun c0 => ?_)
  ·
    refine G_aload_n d_X12_add_9 rfl 0 rfl ?_
    refine G_callV (M' := mX12_nodes) (R' := (Rm (d + 1))) (S := []) [] 12 (w12_kd hw12_r0) cok12 rfl ok_X12_nodes ml_X12_169 pn_X12_nodes (ru_Rm (by decide)) (Nat.le_of_ble_eq_true rfl) d_X12_add_10 (s_X12_nodes (μ := μ)  hw12_r0 ?_)
    show G X (Rm (d + 2)) mX12_add 13 [(0, .ref r0), (1, .int l1)] [.int (e_X12_nodes μ r0)] μ 0 0 K
    refine G_bipush d_X12_add_13 bp_6 ?_
    refine G_icmp_ne (tgt := 21) d_X12_add_15 rfl (fun c1 => ?_) (fun c1 => ?_)
    ·
      refine G_aload_n d_X12_add_21 rfl 0 rfl ?_
      refine G_iload_n d_X12_add_22 rfl 1 rfl ?_
      refine G_sub (L' := [(0, .ref r0)]) [0] rfl ?_
      refine G_callV (M' := mX12_comes) (R' := (Rm (d + 1))) (S := []) [.int l1] 12 (w12_kd hw12_r0) cok12 rfl ok_X12_comes ml_X12_238 pn_X12_comes (ru_Rm (by decide)) (Nat.le_of_ble_eq_true rfl) d_X12_add_23 ?_
      exact (hc_comes c0 c1)
    ·
      refine G_bipush d_X12_add_18 bp_m3 ?_
      exact G_iret rfl rfl rfl d_X12_add_20 (hK c0 c1)
  ·
    refine G_iconst d_X12_add_7 ic_m1 ?_
    exact G_iret rfl rfl rfl d_X12_add_8 (hK_2 c0)
theorem b_X12_add_26 {X : cX} {d : Nat} {μ : mM} {K : Option Value → mM → Prop} {r0 : Nat} (hw12_r0 : WF12 μ r0) (hK : K (some (.int (e_X12_nodes μ r0))) μ) : G X (Rm (d + 2)) mX12_add 26 [(0, .ref r0)] [] μ 0 0 K := by
  refine G_aload_n d_X12_add_26 rfl 0 rfl ?_
  refine G_callV (M' := mX12_nodes) (R' := (Rm (d + 1))) (S := []) [] 12 (w12_kd hw12_r0) cok12 rfl ok_X12_nodes ml_X12_169 pn_X12_nodes (ru_Rm (by decide)) (Nat.le_of_ble_eq_true rfl) d_X12_add_27 (s_X12_nodes (μ := μ)  hw12_r0 ?_)
  show G X (Rm (d + 2)) mX12_add 30 [(0, .ref r0)] [.int (e_X12_nodes μ r0)] μ 0 0 K
  exact G_iret rfl rfl rfl d_X12_add_30 hK
theorem d_X12_movesDown_0 : decode cX12_movesDown 0 = .ok (.iload_n 2, 1) := by decide +kernel
theorem d_X12_movesDown_1 : decode cX12_movesDown 1 = .ok (.istore_n 3, 1) := by decide +kernel
theorem d_X12_movesDown_2 : decode cX12_movesDown 2 = .ok (.iload_n 3, 1) := by decide +kernel
theorem d_X12_movesDown_3 : decode cX12_movesDown 3 = .ok (.iconst 5, 1) := by decide +kernel
theorem d_X12_movesDown_4 : decode cX12_movesDown 4 = .ok (.if_icmp .ge 27, 3) := by decide +kernel
theorem d_X12_movesDown_7 : decode cX12_movesDown 7 = .ok (.aload_n 0, 1) := by decide +kernel
theorem d_X12_movesDown_8 : decode cX12_movesDown 8 = .ok (.getfield 7, 3) := by decide +kernel
theorem d_X12_movesDown_11 : decode cX12_movesDown 11 = .ok (.iload_n 1, 1) := by decide +kernel
theorem d_X12_movesDown_12 : decode cX12_movesDown 12 = .ok (.iload_n 3, 1) := by decide +kernel
theorem d_X12_movesDown_13 : decode cX12_movesDown 13 = .ok (.iadd, 1) := by decide +kernel
theorem d_X12_movesDown_14 : decode cX12_movesDown 14 = .ok (.aload_n 0, 1) := by decide +kernel
theorem d_X12_movesDown_15 : decode cX12_movesDown 15 = .ok (.getfield 7, 3) := by decide +kernel
theorem d_X12_movesDown_18 : decode cX12_movesDown 18 = .ok (.iload_n 1, 1) := by decide +kernel
theorem d_X12_movesDown_19 : decode cX12_movesDown 19 = .ok (.iload_n 3, 1) := by decide +kernel
theorem d_X12_movesDown_20 : decode cX12_movesDown 20 = .ok (.iadd, 1) := by decide +kernel
theorem d_X12_movesDown_21 : decode cX12_movesDown 21 = .ok (.iconst 1, 1) := by decide +kernel
theorem d_X12_movesDown_22 : decode cX12_movesDown 22 = .ok (.iadd, 1) := by decide +kernel
theorem d_X12_movesDown_23 : decode cX12_movesDown 23 = .ok (.iaload, 1) := by decide +kernel
theorem d_X12_movesDown_24 : decode cX12_movesDown 24 = .ok (.iastore, 1) := by decide +kernel
theorem d_X12_movesDown_25 : decode cX12_movesDown 25 = .ok (.iinc 3 1, 3) := by decide +kernel
theorem d_X12_movesDown_28 : decode cX12_movesDown 28 = .ok (.goto (-26), 3) := by decide +kernel
theorem d_X12_movesDown_31 : decode cX12_movesDown 31 = .ok (.aload_n 0, 1) := by decide +kernel
theorem d_X12_movesDown_32 : decode cX12_movesDown 32 = .ok (.getfield 7, 3) := by decide +kernel
theorem d_X12_movesDown_35 : decode cX12_movesDown 35 = .ok (.iload_n 1, 1) := by decide +kernel
theorem d_X12_movesDown_36 : decode cX12_movesDown 36 = .ok (.iconst 5, 1) := by decide +kernel
theorem d_X12_movesDown_37 : decode cX12_movesDown 37 = .ok (.iadd, 1) := by decide +kernel
theorem d_X12_movesDown_38 : decode cX12_movesDown 38 = .ok (.iconst 0, 1) := by decide +kernel
theorem d_X12_movesDown_39 : decode cX12_movesDown 39 = .ok (.iastore, 1) := by decide +kernel
theorem d_X12_movesDown_40 : decode cX12_movesDown 40 = .ok (.return_, 1) := by decide +kernel
theorem b_X12_movesDown_0 {X : cX} {d : Nat} {μ : mM} {K : Option Value → mM → Prop} {r0 : Nat} {l1 : Int32} {l2 : Int32} (h : G X (Rm d) mX12_movesDown 2 [(0, .ref r0), (1, .int l1), (3, .int l2)] [] μ 0 0 K) : G X (Rm d) mX12_movesDown 0 [(0, .ref r0), (1, .int l1), (2, .int l2)] [] μ 0 0 K := by
  refine G_iload_n d_X12_movesDown_0 rfl 2 rfl ?_
  refine G_istore_n (L' := [(3, .int l2), (0, .ref r0), (1, .int l1), (2, .int l2)]) d_X12_movesDown_1 rfl (by decide) rfl ?_
  refine G_sub (L' := [(0, .ref r0), (1, .int l1), (3, .int l2)]) [1, 2, 0] rfl ?_
  exact h
theorem b_X12_movesDown_2 {X : cX} {d : Nat} {μ : mM} {K : Option Value → mM → Prop} {r0 : Nat} {i1 : Nat} {i3 : Nat} (hw12_r0 : WF12 μ r0) (hb : (5 : Int32) ≤ (nI i3) → (i1 + 5) < 366) (hK : (5 : Int32) ≤ (nI i3) → K none (wi μ (r0 + 1) (i1 + 5) 0)) (hb_2 : ¬ (5 : Int32) ≤ (nI i3) → ((i1 + i3) + 1) < 366) (hb_3 : ¬ (5 : Int32) ≤ (nI i3) → (i1 + i3) < 366) (h : ¬ (5 : Int32) ≤ (nI i3) → G X (Rm d) mX12_movesDown 2 [(0, .ref r0), (1, .int (nI i1)), (3, .int (nI (i3 + 1)))] [] (wi μ (r0 + 1) (i1 + i3) (iv μ (r0 + 1) ((i1 + i3) + 1))) 0 0 K) : G X (Rm d) mX12_movesDown 2 [(0, .ref r0), (1, .int (nI i1)), (3, .int (nI i3))] [] μ 0 0 K := by
  refine G_iload_n d_X12_movesDown_2 rfl 2 rfl ?_
  refine G_iconst d_X12_movesDown_3 ic_5 ?_
  refine G_icmp_ge (tgt := 31) d_X12_movesDown_4 rfl (fun c0 => ?_) (fun c0 => ?_)
  ·
    refine G_aload_n d_X12_movesDown_31 rfl 0 rfl ?_
    refine G_getR (r := r0 + 1) 12 0 (w12_kd hw12_r0) (w12_f0 hw12_r0) cok12 (by decide) rfl fl_X12_7 d_X12_movesDown_32 ?_
    refine G_iload_n d_X12_movesDown_35 rfl 1 rfl ?_
    refine G_iconst d_X12_movesDown_36 ic_5 ?_
    refine G_iadd d_X12_movesDown_37 ?_
    refine G_iconst d_X12_movesDown_38 ic_0 ?_
    refine G_iast (i1 + 5) (w12_k0 hw12_r0) (nadd rfl rfl) (hb c0) d_X12_movesDown_39 ?_
    exact G_vret rfl rfl rfl d_X12_movesDown_40 (hK c0)
  ·
    refine G_aload_n d_X12_movesDown_7 rfl 0 rfl ?_
    refine G_getR (r := r0 + 1) 12 0 (w12_kd hw12_r0) (w12_f0 hw12_r0) cok12 (by decide) rfl fl_X12_7 d_X12_movesDown_8 ?_
    refine G_iload_n d_X12_movesDown_11 rfl 1 rfl ?_
    refine G_iload_n d_X12_movesDown_12 rfl 2 rfl ?_
    refine G_iadd d_X12_movesDown_13 ?_
    refine G_aload_n d_X12_movesDown_14 rfl 0 rfl ?_
    refine G_getR (r := r0 + 1) 12 0 (w12_kd hw12_r0) (w12_f0 hw12_r0) cok12 (by decide) rfl fl_X12_7 d_X12_movesDown_15 ?_
    refine G_iload_n d_X12_movesDown_18 rfl 1 rfl ?_
    refine G_iload_n d_X12_movesDown_19 rfl 2 rfl ?_
    refine G_iadd d_X12_movesDown_20 ?_
    refine G_iconst d_X12_movesDown_21 ic_1 ?_
    refine G_iadd d_X12_movesDown_22 ?_
    refine G_iald ((i1 + i3) + 1) (w12_k0 hw12_r0) (nadd (nadd rfl rfl) rfl) (hb_2 c0) d_X12_movesDown_23 ?_
    refine G_iast (i1 + i3) (w12_k0 hw12_r0) (nadd rfl rfl) (hb_3 c0) d_X12_movesDown_24 ?_
    refine G_iinc (L' := [(3, .int (nI (i3 + 1))), (0, .ref r0), (1, .int (nI i1))]) d_X12_movesDown_25 2 rfl (inc1 i3) (by decide) rfl ?_
    refine G_goto (tgt := 2) d_X12_movesDown_28 rfl ?_
    refine G_sub (L' := [(0, .ref r0), (1, .int (nI i1)), (3, .int (nI (i3 + 1)))]) [1, 2, 0] rfl ?_
    exact (h c0)
theorem d_X12_lose_0 : decode cX12_lose 0 = .ok (.aload_n 0, 1) := by decide +kernel
theorem d_X12_lose_1 : decode cX12_lose 1 = .ok (.iload_n 1, 1) := by decide +kernel
theorem d_X12_lose_2 : decode cX12_lose 2 = .ok (.invokevirtual 192, 3) := by decide +kernel
theorem d_X12_lose_5 : decode cX12_lose 5 = .ok (.ifCond .ne 5, 3) := by decide +kernel
theorem d_X12_lose_8 : decode cX12_lose 8 = .ok (.iconst (-1), 1) := by decide +kernel
theorem d_X12_lose_9 : decode cX12_lose 9 = .ok (.ireturn, 1) := by decide +kernel
theorem d_X12_lose_10 : decode cX12_lose 10 = .ok (.aload_n 0, 1) := by decide +kernel
theorem d_X12_lose_11 : decode cX12_lose 11 = .ok (.iconst 0, 1) := by decide +kernel
theorem d_X12_lose_12 : decode cX12_lose 12 = .ok (.iload_n 1, 1) := by decide +kernel
theorem d_X12_lose_13 : decode cX12_lose 13 = .ok (.invokevirtual 241, 3) := by decide +kernel
theorem d_X12_lose_16 : decode cX12_lose 16 = .ok (.iconst 0, 1) := by decide +kernel
theorem d_X12_lose_17 : decode cX12_lose 17 = .ok (.istore_n 2, 1) := by decide +kernel
theorem d_X12_lose_18 : decode cX12_lose 18 = .ok (.iload_n 2, 1) := by decide +kernel
theorem d_X12_lose_19 : decode cX12_lose 19 = .ok (.iconst 3, 1) := by decide +kernel
theorem d_X12_lose_20 : decode cX12_lose 20 = .ok (.if_icmp .ge 21, 3) := by decide +kernel
theorem d_X12_lose_23 : decode cX12_lose 23 = .ok (.aload_n 0, 1) := by decide +kernel
theorem d_X12_lose_24 : decode cX12_lose 24 = .ok (.bipush 6, 2) := by decide +kernel
theorem d_X12_lose_26 : decode cX12_lose 26 = .ok (.bipush 6, 2) := by decide +kernel
theorem d_X12_lose_28 : decode cX12_lose 28 = .ok (.iload_n 2, 1) := by decide +kernel
theorem d_X12_lose_29 : decode cX12_lose 29 = .ok (.imul, 1) := by decide +kernel
theorem d_X12_lose_30 : decode cX12_lose 30 = .ok (.iadd, 1) := by decide +kernel
theorem d_X12_lose_31 : decode cX12_lose 31 = .ok (.iload_n 1, 1) := by decide +kernel
theorem d_X12_lose_32 : decode cX12_lose 32 = .ok (.invokevirtual 241, 3) := by decide +kernel
theorem d_X12_lose_35 : decode cX12_lose 35 = .ok (.iinc 2 1, 3) := by decide +kernel
theorem d_X12_lose_38 : decode cX12_lose 38 = .ok (.goto (-20), 3) := by decide +kernel
theorem d_X12_lose_41 : decode cX12_lose 41 = .ok (.iload_n 1, 1) := by decide +kernel
theorem d_X12_lose_42 : decode cX12_lose 42 = .ok (.istore_n 2, 1) := by decide +kernel
theorem d_X12_lose_43 : decode cX12_lose 43 = .ok (.iload_n 2, 1) := by decide +kernel
theorem d_X12_lose_44 : decode cX12_lose 44 = .ok (.iconst 5, 1) := by decide +kernel
theorem d_X12_lose_45 : decode cX12_lose 45 = .ok (.if_icmp .ge 54, 3) := by decide +kernel
theorem d_X12_lose_48 : decode cX12_lose 48 = .ok (.iconst 0, 1) := by decide +kernel
theorem d_X12_lose_49 : decode cX12_lose 49 = .ok (.istore_n 3, 1) := by decide +kernel
theorem d_X12_lose_50 : decode cX12_lose 50 = .ok (.iload_n 3, 1) := by decide +kernel
theorem d_X12_lose_51 : decode cX12_lose 51 = .ok (.bipush 6, 2) := by decide +kernel
theorem d_X12_lose_53 : decode cX12_lose 53 = .ok (.if_icmp .ge 40, 3) := by decide +kernel
theorem d_X12_lose_56 : decode cX12_lose 56 = .ok (.aload_n 0, 1) := by decide +kernel
theorem d_X12_lose_57 : decode cX12_lose 57 = .ok (.getfield 7, 3) := by decide +kernel
theorem d_X12_lose_60 : decode cX12_lose 60 = .ok (.bipush 24, 2) := by decide +kernel
theorem d_X12_lose_62 : decode cX12_lose 62 = .ok (.bipush 6, 2) := by decide +kernel
theorem d_X12_lose_64 : decode cX12_lose 64 = .ok (.iload_n 2, 1) := by decide +kernel
theorem d_X12_lose_65 : decode cX12_lose 65 = .ok (.imul, 1) := by decide +kernel
theorem d_X12_lose_66 : decode cX12_lose 66 = .ok (.iadd, 1) := by decide +kernel
theorem d_X12_lose_67 : decode cX12_lose 67 = .ok (.iload_n 3, 1) := by decide +kernel
theorem d_X12_lose_68 : decode cX12_lose 68 = .ok (.iadd, 1) := by decide +kernel
theorem d_X12_lose_69 : decode cX12_lose 69 = .ok (.aload_n 0, 1) := by decide +kernel
theorem d_X12_lose_70 : decode cX12_lose 70 = .ok (.getfield 7, 3) := by decide +kernel
theorem d_X12_lose_73 : decode cX12_lose 73 = .ok (.bipush 24, 2) := by decide +kernel
theorem d_X12_lose_75 : decode cX12_lose 75 = .ok (.bipush 6, 2) := by decide +kernel
theorem d_X12_lose_77 : decode cX12_lose 77 = .ok (.iload_n 2, 1) := by decide +kernel
theorem d_X12_lose_78 : decode cX12_lose 78 = .ok (.imul, 1) := by decide +kernel
theorem d_X12_lose_79 : decode cX12_lose 79 = .ok (.iadd, 1) := by decide +kernel
theorem d_X12_lose_80 : decode cX12_lose 80 = .ok (.bipush 6, 2) := by decide +kernel
theorem d_X12_lose_82 : decode cX12_lose 82 = .ok (.iadd, 1) := by decide +kernel
theorem d_X12_lose_83 : decode cX12_lose 83 = .ok (.iload_n 3, 1) := by decide +kernel
theorem d_X12_lose_84 : decode cX12_lose 84 = .ok (.iadd, 1) := by decide +kernel
theorem d_X12_lose_85 : decode cX12_lose 85 = .ok (.iaload, 1) := by decide +kernel
theorem d_X12_lose_86 : decode cX12_lose 86 = .ok (.iastore, 1) := by decide +kernel
theorem d_X12_lose_87 : decode cX12_lose 87 = .ok (.iinc 3 1, 3) := by decide +kernel
theorem d_X12_lose_90 : decode cX12_lose 90 = .ok (.goto (-40), 3) := by decide +kernel
theorem d_X12_lose_93 : decode cX12_lose 93 = .ok (.iinc 2 1, 3) := by decide +kernel
theorem d_X12_lose_96 : decode cX12_lose 96 = .ok (.goto (-53), 3) := by decide +kernel
theorem d_X12_lose_99 : decode cX12_lose 99 = .ok (.iconst 0, 1) := by decide +kernel
theorem d_X12_lose_100 : decode cX12_lose 100 = .ok (.istore_n 2, 1) := by decide +kernel
theorem d_X12_lose_101 : decode cX12_lose 101 = .ok (.iload_n 2, 1) := by decide +kernel
theorem d_X12_lose_102 : decode cX12_lose 102 = .ok (.bipush 6, 2) := by decide +kernel
theorem d_X12_lose_104 : decode cX12_lose 104 = .ok (.if_icmp .ge 19, 3) := by decide +kernel
theorem d_X12_lose_107 : decode cX12_lose 107 = .ok (.aload_n 0, 1) := by decide +kernel
theorem d_X12_lose_108 : decode cX12_lose 108 = .ok (.getfield 7, 3) := by decide +kernel
theorem d_X12_lose_111 : decode cX12_lose 111 = .ok (.bipush 54, 2) := by decide +kernel
theorem d_X12_lose_113 : decode cX12_lose 113 = .ok (.iload_n 2, 1) := by decide +kernel
theorem d_X12_lose_114 : decode cX12_lose 114 = .ok (.iadd, 1) := by decide +kernel
theorem d_X12_lose_115 : decode cX12_lose 115 = .ok (.iconst 0, 1) := by decide +kernel
theorem d_X12_lose_116 : decode cX12_lose 116 = .ok (.iastore, 1) := by decide +kernel
theorem d_X12_lose_117 : decode cX12_lose 117 = .ok (.iinc 2 1, 3) := by decide +kernel
theorem d_X12_lose_120 : decode cX12_lose 120 = .ok (.goto (-19), 3) := by decide +kernel
theorem d_X12_lose_123 : decode cX12_lose 123 = .ok (.iconst 0, 1) := by decide +kernel
theorem d_X12_lose_124 : decode cX12_lose 124 = .ok (.istore_n 2, 1) := by decide +kernel
theorem d_X12_lose_125 : decode cX12_lose 125 = .ok (.iload_n 2, 1) := by decide +kernel
theorem d_X12_lose_126 : decode cX12_lose 126 = .ok (.bipush 6, 2) := by decide +kernel
theorem d_X12_lose_128 : decode cX12_lose 128 = .ok (.if_icmp .ge 21, 3) := by decide +kernel
theorem d_X12_lose_131 : decode cX12_lose 131 = .ok (.aload_n 0, 1) := by decide +kernel
theorem d_X12_lose_132 : decode cX12_lose 132 = .ok (.bipush 24, 2) := by decide +kernel
theorem d_X12_lose_134 : decode cX12_lose 134 = .ok (.bipush 6, 2) := by decide +kernel
theorem d_X12_lose_136 : decode cX12_lose 136 = .ok (.iload_n 2, 1) := by decide +kernel
theorem d_X12_lose_137 : decode cX12_lose 137 = .ok (.imul, 1) := by decide +kernel
theorem d_X12_lose_138 : decode cX12_lose 138 = .ok (.iadd, 1) := by decide +kernel
theorem d_X12_lose_139 : decode cX12_lose 139 = .ok (.iload_n 1, 1) := by decide +kernel
theorem d_X12_lose_140 : decode cX12_lose 140 = .ok (.invokevirtual 241, 3) := by decide +kernel
theorem d_X12_lose_143 : decode cX12_lose 143 = .ok (.iinc 2 1, 3) := by decide +kernel
theorem d_X12_lose_146 : decode cX12_lose 146 = .ok (.goto (-21), 3) := by decide +kernel
theorem d_X12_lose_149 : decode cX12_lose 149 = .ok (.aload_n 0, 1) := by decide +kernel
theorem d_X12_lose_150 : decode cX12_lose 150 = .ok (.getfield 7, 3) := by decide +kernel
theorem d_X12_lose_153 : decode cX12_lose 153 = .ok (.bipush 60, 2) := by decide +kernel
theorem d_X12_lose_155 : decode cX12_lose 155 = .ok (.dup2, 1) := by decide +kernel
theorem d_X12_lose_156 : decode cX12_lose 156 = .ok (.iaload, 1) := by decide +kernel
theorem d_X12_lose_157 : decode cX12_lose 157 = .ok (.iconst 1, 1) := by decide +kernel
theorem d_X12_lose_158 : decode cX12_lose 158 = .ok (.isub, 1) := by decide +kernel
theorem d_X12_lose_159 : decode cX12_lose 159 = .ok (.iastore, 1) := by decide +kernel
theorem d_X12_lose_160 : decode cX12_lose 160 = .ok (.aload_n 0, 1) := by decide +kernel
theorem d_X12_lose_161 : decode cX12_lose 161 = .ok (.invokevirtual 169, 3) := by decide +kernel
theorem d_X12_lose_164 : decode cX12_lose 164 = .ok (.ireturn, 1) := by decide +kernel
theorem b_X12_lose_0 {X : cX} {d : Nat} {μ : mM} {K : Option Value → mM → Prop} {r0 : Nat} {l1 : Int32} (hw12_r0 : WF12 μ r0) (hs : e_X12_in μ l1.toInt64 0 (((e_X12_nodes μ r0) - 1).toInt64) = 0 ∨ e_X12_in μ l1.toInt64 0 (((e_X12_nodes μ r0) - 1).toInt64) = 1) (hc_movesDown : ¬ (e_X12_isNode μ r0 l1) = 0 → Ct X (Rm (d + 1)) mX12_movesDown [.ref r0, .int 0, .int l1] μ (fun r μ2 => G X (Rm (d + 2)) mX12_lose 16 [(0, .ref r0), (1, .int l1)] (r.toList ++ []) μ2 0 0 K)) (hK : (e_X12_isNode μ r0 l1) = 0 → K (some (.int (-1))) μ) : G X (Rm (d + 2)) mX12_lose 0 [(0, .ref r0), (1, .int l1)] [] μ 0 0 K := by
  refine G_aload_n d_X12_lose_0 rfl 0 rfl ?_
  refine G_iload_n d_X12_lose_1 rfl 1 rfl ?_
  refine G_callV (M' := mX12_isNode) (R' := (Rm (d + 1))) (S := []) [.int l1] 12 (w12_kd hw12_r0) cok12 rfl ok_X12_isNode ml_X12_192 pn_X12_isNode (ru_Rm (by decide)) (Nat.le_of_ble_eq_true rfl) d_X12_lose_2 (s_X12_isNode (μ := μ)  hw12_r0 hs ?_)
  show G X (Rm (d + 2)) mX12_lose 5 [(0, .ref r0), (1, .int l1)] [.int (e_X12_isNode μ r0 l1)] μ 0 0 K
  refine G_if_ne (tgt := 10) d_X12_lose_5 rfl (fun c0 => ?_) (fun c0 => ?_)
  ·
    refine G_aload_n d_X12_lose_10 rfl 0 rfl ?_
    refine G_iconst d_X12_lose_11 ic_0 ?_
    refine G_iload_n d_X12_lose_12 rfl 1 rfl ?_
    refine G_callV (M' := mX12_movesDown) (R' := (Rm (d + 1))) (S := []) [.int 0, .int l1] 12 (w12_kd hw12_r0) cok12 rfl ok_X12_movesDown ml_X12_241 pn_X12_movesDown (ru_Rm (by decide)) (Nat.le_of_ble_eq_true rfl) d_X12_lose_13 ?_
    exact (hc_movesDown c0)
  ·
    refine G_iconst d_X12_lose_8 ic_m1 ?_
    exact G_iret rfl rfl rfl d_X12_lose_9 (hK c0)
theorem b_X12_lose_16 {X : cX} {d : Nat} {μ : mM} {K : Option Value → mM → Prop} {r0 : Nat} {l1 : Int32} (h : G X (Rm (d + 2)) mX12_lose 18 [(0, .ref r0), (1, .int l1), (2, .int (nI 0))] [] μ 0 0 K) : G X (Rm (d + 2)) mX12_lose 16 [(0, .ref r0), (1, .int l1)] [] μ 0 0 K := by
  refine G_iconst d_X12_lose_16 ic_0 ?_
  refine G_istore_n (L' := [(2, .int (nI 0)), (0, .ref r0), (1, .int l1)]) d_X12_lose_17 rfl (by decide) rfl ?_
  refine G_sub (L' := [(0, .ref r0), (1, .int l1), (2, .int (nI 0))]) [1, 2, 0] rfl ?_
  exact h
theorem b_X12_lose_18 {X : cX} {d : Nat} {μ : mM} {K : Option Value → mM → Prop} {r0 : Nat} {l1 : Int32} {l2 : Int32} (h : (3 : Int32) ≤ l2 → G X (Rm (d + 2)) mX12_lose 43 [(0, .ref r0), (1, .int l1), (2, .int l1)] [] μ 0 0 K) (hw12_r0 : WF12 μ r0) (hc_movesDown : ¬ (3 : Int32) ≤ l2 → Ct X (Rm (d + 1)) mX12_movesDown [.ref r0, .int ((6 : Int32) + ((6 : Int32) * l2)), .int l1] μ (fun r μ2 => G X (Rm (d + 2)) mX12_lose 35 [(0, .ref r0), (1, .int l1), (2, .int l2)] (r.toList ++ []) μ2 0 0 K)) : G X (Rm (d + 2)) mX12_lose 18 [(0, .ref r0), (1, .int l1), (2, .int l2)] [] μ 0 0 K := by
  refine G_iload_n d_X12_lose_18 rfl 2 rfl ?_
  refine G_iconst d_X12_lose_19 ic_3 ?_
  refine G_icmp_ge (tgt := 41) d_X12_lose_20 rfl (fun c0 => ?_) (fun c0 => ?_)
  ·
    refine G_iload_n d_X12_lose_41 rfl 1 rfl ?_
    refine G_istore_n (L' := [(2, .int l1), (0, .ref r0), (1, .int l1)]) d_X12_lose_42 rfl (by decide) rfl ?_
    refine G_sub (L' := [(0, .ref r0), (1, .int l1), (2, .int l1)]) [1, 2, 0] rfl ?_
    exact (h c0)
  ·
    refine G_aload_n d_X12_lose_23 rfl 0 rfl ?_
    refine G_bipush d_X12_lose_24 bp_6 ?_
    refine G_bipush d_X12_lose_26 bp_6 ?_
    refine G_iload_n d_X12_lose_28 rfl 2 rfl ?_
    refine G_imul d_X12_lose_29 ?_
    refine G_iadd d_X12_lose_30 ?_
    refine G_iload_n d_X12_lose_31 rfl 1 rfl ?_
    refine G_callV (M' := mX12_movesDown) (R' := (Rm (d + 1))) (S := []) [.int ((6 : Int32) + ((6 : Int32) * l2)), .int l1] 12 (w12_kd hw12_r0) cok12 rfl ok_X12_movesDown ml_X12_241 pn_X12_movesDown (ru_Rm (by decide)) (Nat.le_of_ble_eq_true rfl) d_X12_lose_32 ?_
    exact (hc_movesDown c0)
theorem b_X12_lose_35 {X : cX} {d : Nat} {μ : mM} {K : Option Value → mM → Prop} {r0 : Nat} {l1 : Int32} {i2 : Nat} (h : G X (Rm (d + 2)) mX12_lose 18 [(0, .ref r0), (1, .int l1), (2, .int (nI (i2 + 1)))] [] μ 0 0 K) : G X (Rm (d + 2)) mX12_lose 35 [(0, .ref r0), (1, .int l1), (2, .int (nI i2))] [] μ 0 0 K := by
  refine G_iinc (L' := [(2, .int (nI (i2 + 1))), (0, .ref r0), (1, .int l1)]) d_X12_lose_35 2 rfl (inc1 i2) (by decide) rfl ?_
  refine G_goto (tgt := 18) d_X12_lose_38 rfl ?_
  refine G_sub (L' := [(0, .ref r0), (1, .int l1), (2, .int (nI (i2 + 1)))]) [1, 2, 0] rfl ?_
  exact h
theorem b_X12_lose_43 {X : cX} {d : Nat} {μ : mM} {K : Option Value → mM → Prop} {r0 : Nat} {l1 : Int32} {l2 : Int32} (h : (5 : Int32) ≤ l2 → G X (Rm (d + 2)) mX12_lose 101 [(0, .ref r0), (1, .int l1), (2, .int (nI 0))] [] μ 0 0 K) (h_2 : ¬ (5 : Int32) ≤ l2 → G X (Rm (d + 2)) mX12_lose 50 [(0, .ref r0), (1, .int l1), (2, .int l2), (3, .int (nI 0))] [] μ 0 0 K) : G X (Rm (d + 2)) mX12_lose 43 [(0, .ref r0), (1, .int l1), (2, .int l2)] [] μ 0 0 K := by
  refine G_iload_n d_X12_lose_43 rfl 2 rfl ?_
  refine G_iconst d_X12_lose_44 ic_5 ?_
  refine G_icmp_ge (tgt := 99) d_X12_lose_45 rfl (fun c0 => ?_) (fun c0 => ?_)
  ·
    refine G_iconst d_X12_lose_99 ic_0 ?_
    refine G_istore_n (L' := [(2, .int (nI 0)), (0, .ref r0), (1, .int l1)]) d_X12_lose_100 rfl (by decide) rfl ?_
    refine G_sub (L' := [(0, .ref r0), (1, .int l1), (2, .int (nI 0))]) [1, 2, 0] rfl ?_
    exact (h c0)
  ·
    refine G_iconst d_X12_lose_48 ic_0 ?_
    refine G_istore_n (L' := [(3, .int (nI 0)), (0, .ref r0), (1, .int l1), (2, .int l2)]) d_X12_lose_49 rfl (by decide) rfl ?_
    refine G_sub (L' := [(0, .ref r0), (1, .int l1), (2, .int l2), (3, .int (nI 0))]) [1, 2, 3, 0] rfl ?_
    exact (h_2 c0)
theorem b_X12_lose_50 {X : cX} {d : Nat} {μ : mM} {K : Option Value → mM → Prop} {r0 : Nat} {l1 : Int32} {i2 : Nat} {i3 : Nat} (h : (6 : Int32) ≤ (nI i3) → G X (Rm (d + 2)) mX12_lose 43 [(0, .ref r0), (1, .int l1), (2, .int (nI (i2 + 1)))] [] μ 0 0 K) (hw12_r0 : WF12 μ r0) (hb : ¬ (6 : Int32) ≤ (nI i3) → (((24 + (6 * i2)) + 6) + i3) < 366) (hb_2 : ¬ (6 : Int32) ≤ (nI i3) → ((24 + (6 * i2)) + i3) < 366) (h_2 : ¬ (6 : Int32) ≤ (nI i3) → G X (Rm (d + 2)) mX12_lose 50 [(0, .ref r0), (1, .int l1), (2, .int (nI i2)), (3, .int (nI (i3 + 1)))] [] (wi μ (r0 + 1) ((24 + (6 * i2)) + i3) (iv μ (r0 + 1) (((24 + (6 * i2)) + 6) + i3))) 0 0 K) : G X (Rm (d + 2)) mX12_lose 50 [(0, .ref r0), (1, .int l1), (2, .int (nI i2)), (3, .int (nI i3))] [] μ 0 0 K := by
  refine G_iload_n d_X12_lose_50 rfl 3 rfl ?_
  refine G_bipush d_X12_lose_51 bp_6 ?_
  refine G_icmp_ge (tgt := 93) d_X12_lose_53 rfl (fun c0 => ?_) (fun c0 => ?_)
  ·
    refine G_iinc (L' := [(2, .int (nI (i2 + 1))), (0, .ref r0), (1, .int l1), (3, .int (nI i3))]) d_X12_lose_93 2 rfl (inc1 i2) (by decide) rfl ?_
    refine G_goto (tgt := 43) d_X12_lose_96 rfl ?_
    refine G_sub (L' := [(0, .ref r0), (1, .int l1), (2, .int (nI (i2 + 1)))]) [1, 2, 0] rfl ?_
    exact (h c0)
  ·
    refine G_aload_n d_X12_lose_56 rfl 0 rfl ?_
    refine G_getR (r := r0 + 1) 12 0 (w12_kd hw12_r0) (w12_f0 hw12_r0) cok12 (by decide) rfl fl_X12_7 d_X12_lose_57 ?_
    refine G_bipush d_X12_lose_60 bp_24 ?_
    refine G_bipush d_X12_lose_62 bp_6 ?_
    refine G_iload_n d_X12_lose_64 rfl 2 rfl ?_
    refine G_imul d_X12_lose_65 ?_
    refine G_iadd d_X12_lose_66 ?_
    refine G_iload_n d_X12_lose_67 rfl 3 rfl ?_
    refine G_iadd d_X12_lose_68 ?_
    refine G_aload_n d_X12_lose_69 rfl 0 rfl ?_
    refine G_getR (r := r0 + 1) 12 0 (w12_kd hw12_r0) (w12_f0 hw12_r0) cok12 (by decide) rfl fl_X12_7 d_X12_lose_70 ?_
    refine G_bipush d_X12_lose_73 bp_24 ?_
    refine G_bipush d_X12_lose_75 bp_6 ?_
    refine G_iload_n d_X12_lose_77 rfl 2 rfl ?_
    refine G_imul d_X12_lose_78 ?_
    refine G_iadd d_X12_lose_79 ?_
    refine G_bipush d_X12_lose_80 bp_6 ?_
    refine G_iadd d_X12_lose_82 ?_
    refine G_iload_n d_X12_lose_83 rfl 3 rfl ?_
    refine G_iadd d_X12_lose_84 ?_
    refine G_iald (((24 + (6 * i2)) + 6) + i3) (w12_k0 hw12_r0) (nadd (nadd (nadd rfl (nmul rfl rfl)) rfl) rfl) (hb c0) d_X12_lose_85 ?_
    refine G_iast ((24 + (6 * i2)) + i3) (w12_k0 hw12_r0) (nadd (nadd rfl (nmul rfl rfl)) rfl) (hb_2 c0) d_X12_lose_86 ?_
    refine G_iinc (L' := [(3, .int (nI (i3 + 1))), (0, .ref r0), (1, .int l1), (2, .int (nI i2))]) d_X12_lose_87 3 rfl (inc1 i3) (by decide) rfl ?_
    refine G_goto (tgt := 50) d_X12_lose_90 rfl ?_
    refine G_sub (L' := [(0, .ref r0), (1, .int l1), (2, .int (nI i2)), (3, .int (nI (i3 + 1)))]) [1, 2, 3, 0] rfl ?_
    exact (h_2 c0)
theorem b_X12_lose_101 {X : cX} {d : Nat} {μ : mM} {K : Option Value → mM → Prop} {r0 : Nat} {l1 : Int32} {i2 : Nat} (h : (6 : Int32) ≤ (nI i2) → G X (Rm (d + 2)) mX12_lose 125 [(0, .ref r0), (1, .int l1), (2, .int (nI 0))] [] μ 0 0 K) (hw12_r0 : WF12 μ r0) (hb : ¬ (6 : Int32) ≤ (nI i2) → (54 + i2) < 366) (h_2 : ¬ (6 : Int32) ≤ (nI i2) → G X (Rm (d + 2)) mX12_lose 101 [(0, .ref r0), (1, .int l1), (2, .int (nI (i2 + 1)))] [] (wi μ (r0 + 1) (54 + i2) 0) 0 0 K) : G X (Rm (d + 2)) mX12_lose 101 [(0, .ref r0), (1, .int l1), (2, .int (nI i2))] [] μ 0 0 K := by
  refine G_iload_n d_X12_lose_101 rfl 2 rfl ?_
  refine G_bipush d_X12_lose_102 bp_6 ?_
  refine G_icmp_ge (tgt := 123) d_X12_lose_104 rfl (fun c0 => ?_) (fun c0 => ?_)
  ·
    refine G_iconst d_X12_lose_123 ic_0 ?_
    refine G_istore_n (L' := [(2, .int (nI 0)), (0, .ref r0), (1, .int l1)]) d_X12_lose_124 rfl (by decide) rfl ?_
    refine G_sub (L' := [(0, .ref r0), (1, .int l1), (2, .int (nI 0))]) [1, 2, 0] rfl ?_
    exact (h c0)
  ·
    refine G_aload_n d_X12_lose_107 rfl 0 rfl ?_
    refine G_getR (r := r0 + 1) 12 0 (w12_kd hw12_r0) (w12_f0 hw12_r0) cok12 (by decide) rfl fl_X12_7 d_X12_lose_108 ?_
    refine G_bipush d_X12_lose_111 bp_54 ?_
    refine G_iload_n d_X12_lose_113 rfl 2 rfl ?_
    refine G_iadd d_X12_lose_114 ?_
    refine G_iconst d_X12_lose_115 ic_0 ?_
    refine G_iast (54 + i2) (w12_k0 hw12_r0) (nadd rfl rfl) (hb c0) d_X12_lose_116 ?_
    refine G_iinc (L' := [(2, .int (nI (i2 + 1))), (0, .ref r0), (1, .int l1)]) d_X12_lose_117 2 rfl (inc1 i2) (by decide) rfl ?_
    refine G_goto (tgt := 101) d_X12_lose_120 rfl ?_
    refine G_sub (L' := [(0, .ref r0), (1, .int l1), (2, .int (nI (i2 + 1)))]) [1, 2, 0] rfl ?_
    exact (h_2 c0)
theorem b_X12_lose_125 {X : cX} {d : Nat} {μ : mM} {K : Option Value → mM → Prop} {r0 : Nat} {l1 : Int32} {l2 : Int32} (hw12_r0 : WF12 μ r0) (hK : (6 : Int32) ≤ l2 → K (some (.int (e_X12_nodes (wi μ (r0 + 1) 60 ((iv μ (r0 + 1) 60) - 1)) r0))) (wi μ (r0 + 1) 60 ((iv μ (r0 + 1) 60) - 1))) (hc_movesDown : ¬ (6 : Int32) ≤ l2 → Ct X (Rm (d + 1)) mX12_movesDown [.ref r0, .int ((24 : Int32) + ((6 : Int32) * l2)), .int l1] μ (fun r μ2 => G X (Rm (d + 2)) mX12_lose 143 [(0, .ref r0), (1, .int l1), (2, .int l2)] (r.toList ++ []) μ2 0 0 K)) : G X (Rm (d + 2)) mX12_lose 125 [(0, .ref r0), (1, .int l1), (2, .int l2)] [] μ 0 0 K := by
  refine G_iload_n d_X12_lose_125 rfl 2 rfl ?_
  refine G_bipush d_X12_lose_126 bp_6 ?_
  refine G_icmp_ge (tgt := 149) d_X12_lose_128 rfl (fun c0 => ?_) (fun c0 => ?_)
  ·
    refine G_aload_n d_X12_lose_149 rfl 0 rfl ?_
    refine G_getR (r := r0 + 1) 12 0 (w12_kd hw12_r0) (w12_f0 hw12_r0) cok12 (by decide) rfl fl_X12_7 d_X12_lose_150 ?_
    refine G_bipush d_X12_lose_153 bp_60 ?_
    refine G_dup2_11 d_X12_lose_155 rfl rfl ?_
    refine G_iald 60 (w12_k0 hw12_r0) rfl (by decide) d_X12_lose_156 ?_
    refine G_iconst d_X12_lose_157 ic_1 ?_
    refine G_isub d_X12_lose_158 ?_
    refine G_iast 60 (w12_k0 hw12_r0) rfl (by decide) d_X12_lose_159 ?_
    refine G_aload_n d_X12_lose_160 rfl 0 rfl ?_
    refine G_callV (M' := mX12_nodes) (R' := (Rm (d + 1))) (S := []) [] 12 (w12_kd hw12_r0) cok12 rfl ok_X12_nodes ml_X12_169 pn_X12_nodes (ru_Rm (by decide)) (Nat.le_of_ble_eq_true rfl) d_X12_lose_161 (s_X12_nodes (μ := wi μ (r0 + 1) 60 ((iv μ (r0 + 1) 60) - 1))  hw12_r0 ?_)
    show G X (Rm (d + 2)) mX12_lose 164 [(0, .ref r0), (1, .int l1), (2, .int l2)] [.int (e_X12_nodes (wi μ (r0 + 1) 60 ((iv μ (r0 + 1) 60) - 1)) r0)] (wi μ (r0 + 1) 60 ((iv μ (r0 + 1) 60) - 1)) 0 0 K
    exact G_iret rfl rfl rfl d_X12_lose_164 (hK c0)
  ·
    refine G_aload_n d_X12_lose_131 rfl 0 rfl ?_
    refine G_bipush d_X12_lose_132 bp_24 ?_
    refine G_bipush d_X12_lose_134 bp_6 ?_
    refine G_iload_n d_X12_lose_136 rfl 2 rfl ?_
    refine G_imul d_X12_lose_137 ?_
    refine G_iadd d_X12_lose_138 ?_
    refine G_iload_n d_X12_lose_139 rfl 1 rfl ?_
    refine G_callV (M' := mX12_movesDown) (R' := (Rm (d + 1))) (S := []) [.int ((24 : Int32) + ((6 : Int32) * l2)), .int l1] 12 (w12_kd hw12_r0) cok12 rfl ok_X12_movesDown ml_X12_241 pn_X12_movesDown (ru_Rm (by decide)) (Nat.le_of_ble_eq_true rfl) d_X12_lose_140 ?_
    exact (hc_movesDown c0)
theorem b_X12_lose_143 {X : cX} {d : Nat} {μ : mM} {K : Option Value → mM → Prop} {r0 : Nat} {l1 : Int32} {i2 : Nat} (h : G X (Rm (d + 2)) mX12_lose 125 [(0, .ref r0), (1, .int l1), (2, .int (nI (i2 + 1)))] [] μ 0 0 K) : G X (Rm (d + 2)) mX12_lose 143 [(0, .ref r0), (1, .int l1), (2, .int (nI i2))] [] μ 0 0 K := by
  refine G_iinc (L' := [(2, .int (nI (i2 + 1))), (0, .ref r0), (1, .int l1)]) d_X12_lose_143 2 rfl (inc1 i2) (by decide) rfl ?_
  refine G_goto (tgt := 125) d_X12_lose_146 rfl ?_
  refine G_sub (L' := [(0, .ref r0), (1, .int l1), (2, .int (nI (i2 + 1)))]) [1, 2, 0] rfl ?_
  exact h
theorem d_X12_becomes_0 : decode cX12_becomes 0 = .ok (.iload_n 1, 1) := by decide +kernel
theorem d_X12_becomes_1 : decode cX12_becomes 1 = .ok (.ifCond .ne 5, 3) := by decide +kernel
theorem d_X12_becomes_4 : decode cX12_becomes 4 = .ok (.iconst (-1), 1) := by decide +kernel
theorem d_X12_becomes_5 : decode cX12_becomes 5 = .ok (.ireturn, 1) := by decide +kernel
theorem d_X12_becomes_6 : decode cX12_becomes 6 = .ok (.aload_n 0, 1) := by decide +kernel
theorem d_X12_becomes_7 : decode cX12_becomes 7 = .ok (.getfield 7, 3) := by decide +kernel
theorem d_X12_becomes_10 : decode cX12_becomes 10 = .ok (.iload_n 2, 1) := by decide +kernel
theorem d_X12_becomes_11 : decode cX12_becomes 11 = .ok (.iaload, 1) := by decide +kernel
theorem d_X12_becomes_12 : decode cX12_becomes 12 = .ok (.istore 4, 2) := by decide +kernel
theorem d_X12_becomes_14 : decode cX12_becomes 14 = .ok (.aload_n 0, 1) := by decide +kernel
theorem d_X12_becomes_15 : decode cX12_becomes 15 = .ok (.getfield 7, 3) := by decide +kernel
theorem d_X12_becomes_18 : decode cX12_becomes 18 = .ok (.iload_n 2, 1) := by decide +kernel
theorem d_X12_becomes_19 : decode cX12_becomes 19 = .ok (.iload_n 3, 1) := by decide +kernel
theorem d_X12_becomes_20 : decode cX12_becomes 20 = .ok (.iastore, 1) := by decide +kernel
theorem d_X12_becomes_21 : decode cX12_becomes 21 = .ok (.iload 4, 2) := by decide +kernel
theorem d_X12_becomes_23 : decode cX12_becomes 23 = .ok (.ireturn, 1) := by decide +kernel
theorem b_X12_becomes_0 {X : cX} {d : Nat} {μ : mM} {K : Option Value → mM → Prop} {r0 : Nat} {l1 : Int32} {i2 : Nat} {l3 : Int32} (hw12_r0 : WF12 μ r0) (hb : ¬ l1 = 0 → i2 < 366) (hK : ¬ l1 = 0 → K (some (.int (iv μ (r0 + 1) i2))) (wi μ (r0 + 1) i2 l3)) (hK_2 : l1 = 0 → K (some (.int (-1))) μ) : G X (Rm d) mX12_becomes 0 [(0, .ref r0), (1, .int l1), (2, .int (nI i2)), (3, .int l3)] [] μ 0 0 K := by
  refine G_iload_n d_X12_becomes_0 rfl 1 rfl ?_
  refine G_if_ne (tgt := 6) d_X12_becomes_1 rfl (fun c0 => ?_) (fun c0 => ?_)
  ·
    refine G_aload_n d_X12_becomes_6 rfl 0 rfl ?_
    refine G_getR (r := r0 + 1) 12 0 (w12_kd hw12_r0) (w12_f0 hw12_r0) cok12 (by decide) rfl fl_X12_7 d_X12_becomes_7 ?_
    refine G_iload_n d_X12_becomes_10 rfl 2 rfl ?_
    refine G_iald i2 (w12_k0 hw12_r0) rfl (hb c0) d_X12_becomes_11 ?_
    refine G_istore (L' := [(4, .int (iv μ (r0 + 1) i2)), (0, .ref r0), (1, .int l1), (2, .int (nI i2)), (3, .int l3)]) d_X12_becomes_12 (by decide) rfl ?_
    refine G_aload_n d_X12_becomes_14 rfl 1 rfl ?_
    refine G_getR (r := r0 + 1) 12 0 (w12_kd hw12_r0) (w12_f0 hw12_r0) cok12 (by decide) rfl fl_X12_7 d_X12_becomes_15 ?_
    refine G_iload_n d_X12_becomes_18 rfl 3 rfl ?_
    refine G_iload_n d_X12_becomes_19 rfl 4 rfl ?_
    refine G_iast i2 (w12_k0 hw12_r0) rfl (hb c0) d_X12_becomes_20 ?_
    refine G_iload d_X12_becomes_21 0 rfl ?_
    exact G_iret rfl rfl rfl d_X12_becomes_23 (hK c0)
  ·
    refine G_iconst d_X12_becomes_4 ic_m1 ?_
    exact G_iret rfl rfl rfl d_X12_becomes_5 (hK_2 c0)
theorem d_X12_many_0 : decode cX12_many 0 = .ok (.aload_n 0, 1) := by decide +kernel
theorem d_X12_many_1 : decode cX12_many 1 = .ok (.aload_n 0, 1) := by decide +kernel
theorem d_X12_many_2 : decode cX12_many 2 = .ok (.iload_n 1, 1) := by decide +kernel
theorem d_X12_many_3 : decode cX12_many 3 = .ok (.invokevirtual 192, 3) := by decide +kernel
theorem d_X12_many_6 : decode cX12_many 6 = .ok (.ifCond .eq 14, 3) := by decide +kernel
theorem d_X12_many_9 : decode cX12_many 9 = .ok (.iload_n 2, 1) := by decide +kernel
theorem d_X12_many_10 : decode cX12_many 10 = .ok (.invokestatic 235, 3) := by decide +kernel
theorem d_X12_many_13 : decode cX12_many 13 = .ok (.ifCond .eq 7, 3) := by decide +kernel
theorem d_X12_many_16 : decode cX12_many 16 = .ok (.iconst 1, 1) := by decide +kernel
theorem d_X12_many_17 : decode cX12_many 17 = .ok (.goto 4, 3) := by decide +kernel
theorem d_X12_many_20 : decode cX12_many 20 = .ok (.iconst 0, 1) := by decide +kernel
theorem d_X12_many_21 : decode cX12_many 21 = .ok (.iload_n 1, 1) := by decide +kernel
theorem d_X12_many_22 : decode cX12_many 22 = .ok (.iload_n 2, 1) := by decide +kernel
theorem d_X12_many_23 : decode cX12_many 23 = .ok (.invokevirtual 244, 3) := by decide +kernel
theorem d_X12_many_26 : decode cX12_many 26 = .ok (.ireturn, 1) := by decide +kernel
theorem b_X12_many_0 {X : cX} {d : Nat} {μ : mM} {K : Option Value → mM → Prop} {r0 : Nat} {l1 : Int32} {l2 : Int32} (hw12_r0 : WF12 μ r0) (hs : e_X12_in μ l1.toInt64 0 (((e_X12_nodes μ r0) - 1).toInt64) = 0 ∨ e_X12_in μ l1.toInt64 0 (((e_X12_nodes μ r0) - 1).toInt64) = 1) (h : (e_X12_isNode μ r0 l1) = 0 → G X (Rm (d + 2)) mX12_many 20 [(1, .int l1), (2, .int l2)] [.ref r0] μ 0 0 K) (hs_2 : ¬ (e_X12_isNode μ r0 l1) = 0 → e_X12_in μ l2.toInt64 0 1 = 0 ∨ e_X12_in μ l2.toInt64 0 1 = 1) (h_2 : ¬ (e_X12_isNode μ r0 l1) = 0 → (e_X12_isFlag μ l2) = 0 → G X (Rm (d + 2)) mX12_many 20 [(1, .int l1), (2, .int l2)] [.ref r0] μ 0 0 K) (h_3 : ¬ (e_X12_isNode μ r0 l1) = 0 → ¬ (e_X12_isFlag μ l2) = 0 → G X (Rm (d + 2)) mX12_many 21 [(1, .int l1), (2, .int l2)] [.int 1, .ref r0] μ 0 0 K) : G X (Rm (d + 2)) mX12_many 0 [(0, .ref r0), (1, .int l1), (2, .int l2)] [] μ 0 0 K := by
  refine G_aload_n d_X12_many_0 rfl 0 rfl ?_
  refine G_aload_n d_X12_many_1 rfl 0 rfl ?_
  refine G_iload_n d_X12_many_2 rfl 1 rfl ?_
  refine G_callV (M' := mX12_isNode) (R' := (Rm (d + 1))) (S := [.ref r0]) [.int l1] 12 (w12_kd hw12_r0) cok12 rfl ok_X12_isNode ml_X12_192 pn_X12_isNode (ru_Rm (by decide)) (Nat.le_of_ble_eq_true rfl) d_X12_many_3 (s_X12_isNode (μ := μ)  hw12_r0 hs ?_)
  show G X (Rm (d + 2)) mX12_many 6 [(0, .ref r0), (1, .int l1), (2, .int l2)] [.int (e_X12_isNode μ r0 l1), .ref r0] μ 0 0 K
  refine G_if_eq (tgt := 20) d_X12_many_6 rfl (fun c0 => ?_) (fun c0 => ?_)
  ·
    refine G_sub (L' := [(1, .int l1), (2, .int l2)]) [1, 2] rfl ?_
    exact (h c0)
  ·
    refine G_iload_n d_X12_many_9 rfl 2 rfl ?_
    refine G_callS (M' := mX12_isFlag) (R' := (Rm (d + 1))) (S := [.ref r0]) [.int l2] ok_X12_isFlag ml_X12_235 pn_X12_isFlag (ru_Rm (by decide)) (Nat.le_of_ble_eq_true rfl) d_X12_many_10 (s_X12_isFlag (μ := μ)  (hs_2 c0) ?_)
    show G X (Rm (d + 2)) mX12_many 13 [(0, .ref r0), (1, .int l1), (2, .int l2)] [.int (e_X12_isFlag μ l2), .ref r0] μ 0 0 K
    refine G_if_eq (tgt := 20) d_X12_many_13 rfl (fun c1 => ?_) (fun c1 => ?_)
    ·
      refine G_sub (L' := [(1, .int l1), (2, .int l2)]) [1, 2] rfl ?_
      exact (h_2 c0 c1)
    ·
      refine G_iconst d_X12_many_16 ic_1 ?_
      refine G_goto (tgt := 21) d_X12_many_17 rfl ?_
      refine G_sub (L' := [(1, .int l1), (2, .int l2)]) [1, 2] rfl ?_
      exact (h_3 c0 c1)
theorem b_X12_many_20 {X : cX} {d : Nat} {μ : mM} {K : Option Value → mM → Prop} {l1 : Int32} {l2 : Int32} {q0 : Nat} (h : G X (Rm (d + 2)) mX12_many 21 [(1, .int l1), (2, .int l2)] [.int 0, .ref q0] μ 0 0 K) : G X (Rm (d + 2)) mX12_many 20 [(1, .int l1), (2, .int l2)] [.ref q0] μ 0 0 K := by
  refine G_iconst d_X12_many_20 ic_0 ?_
  exact h
theorem b_X12_many_21 {X : cX} {d : Nat} {μ : mM} {K : Option Value → mM → Prop} {l1 : Int32} {l2 : Int32} {q0 : Nat} {v1 : Int32} (hw12_q0 : WF12 μ q0) (hc_becomes : Ct X (Rm (d + 1)) mX12_becomes [.ref q0, .int v1, .int l1, .int l2] μ (fun r μ2 => G X (Rm (d + 2)) mX12_many 26 [] (r.toList ++ []) μ2 0 0 K)) : G X (Rm (d + 2)) mX12_many 21 [(1, .int l1), (2, .int l2)] [.int v1, .ref q0] μ 0 0 K := by
  refine G_iload_n d_X12_many_21 rfl 0 rfl ?_
  refine G_iload_n d_X12_many_22 rfl 1 rfl ?_
  refine G_sub (L' := []) [] rfl ?_
  refine G_callV (M' := mX12_becomes) (R' := (Rm (d + 1))) (S := []) [.int v1, .int l1, .int l2] 12 (w12_kd hw12_q0) cok12 rfl ok_X12_becomes ml_X12_244 pn_X12_becomes (ru_Rm (by decide)) (Nat.le_of_ble_eq_true rfl) d_X12_many_23 ?_
  exact hc_becomes
theorem b_X12_many_26 {X : cX} {d : Nat} {μ : mM} {K : Option Value → mM → Prop} {v0 : Int32} (hK : K (some (.int v0)) μ) : G X (Rm (d + 2)) mX12_many 26 [] [.int v0] μ 0 0 K := by
  exact G_iret rfl rfl rfl d_X12_many_26 hK
theorem d_X12_place_0 : decode cX12_place 0 = .ok (.aload_n 0, 1) := by decide +kernel
theorem d_X12_place_1 : decode cX12_place 1 = .ok (.iload_n 1, 1) := by decide +kernel
theorem d_X12_place_2 : decode cX12_place 2 = .ok (.invokestatic 207, 3) := by decide +kernel
theorem d_X12_place_5 : decode cX12_place 5 = .ok (.ifCond .eq 27, 3) := by decide +kernel
theorem d_X12_place_8 : decode cX12_place 8 = .ok (.aload_n 0, 1) := by decide +kernel
theorem d_X12_place_9 : decode cX12_place 9 = .ok (.iload_n 2, 1) := by decide +kernel
theorem d_X12_place_10 : decode cX12_place 10 = .ok (.invokevirtual 192, 3) := by decide +kernel
theorem d_X12_place_13 : decode cX12_place 13 = .ok (.ifCond .eq 19, 3) := by decide +kernel
theorem d_X12_place_16 : decode cX12_place 16 = .ok (.iload_n 3, 1) := by decide +kernel
theorem d_X12_place_17 : decode cX12_place 17 = .ok (.i2l, 1) := by decide +kernel
theorem d_X12_place_18 : decode cX12_place 18 = .ok (.lconst 0, 1) := by decide +kernel
theorem d_X12_place_19 : decode cX12_place 19 = .ok (.ldc2_w 103, 3) := by decide +kernel
theorem d_X12_place_22 : decode cX12_place 22 = .ok (.invokestatic 61, 3) := by decide +kernel
theorem d_X12_place_25 : decode cX12_place 25 = .ok (.ifCond .eq 7, 3) := by decide +kernel
theorem d_X12_place_28 : decode cX12_place 28 = .ok (.iconst 1, 1) := by decide +kernel
theorem d_X12_place_29 : decode cX12_place 29 = .ok (.goto 4, 3) := by decide +kernel
theorem d_X12_place_32 : decode cX12_place 32 = .ok (.iconst 0, 1) := by decide +kernel
theorem d_X12_place_33 : decode cX12_place 33 = .ok (.bipush 6, 2) := by decide +kernel
theorem d_X12_place_35 : decode cX12_place 35 = .ok (.bipush 6, 2) := by decide +kernel
theorem d_X12_place_37 : decode cX12_place 37 = .ok (.iload_n 1, 1) := by decide +kernel
theorem d_X12_place_38 : decode cX12_place 38 = .ok (.imul, 1) := by decide +kernel
theorem d_X12_place_39 : decode cX12_place 39 = .ok (.iadd, 1) := by decide +kernel
theorem d_X12_place_40 : decode cX12_place 40 = .ok (.iload_n 2, 1) := by decide +kernel
theorem d_X12_place_41 : decode cX12_place 41 = .ok (.iadd, 1) := by decide +kernel
theorem d_X12_place_42 : decode cX12_place 42 = .ok (.iload_n 3, 1) := by decide +kernel
theorem d_X12_place_43 : decode cX12_place 43 = .ok (.invokevirtual 244, 3) := by decide +kernel
theorem d_X12_place_46 : decode cX12_place 46 = .ok (.ireturn, 1) := by decide +kernel
theorem b_X12_place_0 {X : cX} {d : Nat} {μ : mM} {K : Option Value → mM → Prop} {r0 : Nat} {l1 : Int32} {l2 : Int32} {l3 : Int32} (hs : e_X12_in μ l1.toInt64 0 2 = 0 ∨ e_X12_in μ l1.toInt64 0 2 = 1) (h : (e_X12_isVariable μ l1) = 0 → G X (Rm (d + 2)) mX12_place 32 [(1, .int l1), (2, .int l2), (3, .int l3)] [.ref r0] μ 0 0 K) (hw12_r0 : WF12 μ r0) (hs_2 : ¬ (e_X12_isVariable μ l1) = 0 → e_X12_in μ l2.toInt64 0 (((e_X12_nodes μ r0) - 1).toInt64) = 0 ∨ e_X12_in μ l2.toInt64 0 (((e_X12_nodes μ r0) - 1).toInt64) = 1) (h_2 : ¬ (e_X12_isVariable μ l1) = 0 → (e_X12_isNode μ r0 l2) = 0 → G X (Rm (d + 2)) mX12_place 32 [(1, .int l1), (2, .int l2), (3, .int l3)] [.ref r0] μ 0 0 K) (h_3 : ¬ (e_X12_isVariable μ l1) = 0 → ¬ (e_X12_isNode μ r0 l2) = 0 → (e_X12_in μ l3.toInt64 0 2) = 0 → G X (Rm (d + 2)) mX12_place 32 [(1, .int l1), (2, .int l2), (3, .int l3)] [.ref r0] μ 0 0 K) (h_4 : ¬ (e_X12_isVariable μ l1) = 0 → ¬ (e_X12_isNode μ r0 l2) = 0 → ¬ (e_X12_in μ l3.toInt64 0 2) = 0 → G X (Rm (d + 2)) mX12_place 33 [(1, .int l1), (2, .int l2), (3, .int l3)] [.int 1, .ref r0] μ 0 0 K) : G X (Rm (d + 2)) mX12_place 0 [(0, .ref r0), (1, .int l1), (2, .int l2), (3, .int l3)] [] μ 0 0 K := by
  refine G_aload_n d_X12_place_0 rfl 0 rfl ?_
  refine G_iload_n d_X12_place_1 rfl 1 rfl ?_
  refine G_callS (M' := mX12_isVariable) (R' := (Rm (d + 1))) (S := [.ref r0]) [.int l1] ok_X12_isVariable ml_X12_207 pn_X12_isVariable (ru_Rm (by decide)) (Nat.le_of_ble_eq_true rfl) d_X12_place_2 (s_X12_isVariable (μ := μ)  hs ?_)
  show G X (Rm (d + 2)) mX12_place 5 [(0, .ref r0), (1, .int l1), (2, .int l2), (3, .int l3)] [.int (e_X12_isVariable μ l1), .ref r0] μ 0 0 K
  refine G_if_eq (tgt := 32) d_X12_place_5 rfl (fun c0 => ?_) (fun c0 => ?_)
  ·
    refine G_sub (L' := [(1, .int l1), (2, .int l2), (3, .int l3)]) [1, 2, 3] rfl ?_
    exact (h c0)
  ·
    refine G_aload_n d_X12_place_8 rfl 0 rfl ?_
    refine G_iload_n d_X12_place_9 rfl 2 rfl ?_
    refine G_callV (M' := mX12_isNode) (R' := (Rm (d + 1))) (S := [.ref r0]) [.int l2] 12 (w12_kd hw12_r0) cok12 rfl ok_X12_isNode ml_X12_192 pn_X12_isNode (ru_Rm (by decide)) (Nat.le_of_ble_eq_true rfl) d_X12_place_10 (s_X12_isNode (μ := μ)  hw12_r0 (hs_2 c0) ?_)
    show G X (Rm (d + 2)) mX12_place 13 [(0, .ref r0), (1, .int l1), (2, .int l2), (3, .int l3)] [.int (e_X12_isNode μ r0 l2), .ref r0] μ 0 0 K
    refine G_if_eq (tgt := 32) d_X12_place_13 rfl (fun c1 => ?_) (fun c1 => ?_)
    ·
      refine G_sub (L' := [(1, .int l1), (2, .int l2), (3, .int l3)]) [1, 2, 3] rfl ?_
      exact (h_2 c0 c1)
    ·
      refine G_iload_n d_X12_place_16 rfl 3 rfl ?_
      refine G_i2l (v := l3.toInt64) d_X12_place_17 rfl ?_
      refine G_lconst (v := 0) d_X12_place_18 rfl ?_
      refine G_ldc2 kl_X12_103 d_X12_place_19 ?_
      refine G_callS (M' := mX12_in) (R' := (Rm (d + 1))) (S := [.ref r0]) [.long l3.toInt64, .long 0, .long 2] ok_X12_in ml_X12_61 pn_X12_in (ru_Rm (by decide)) (Nat.le_of_ble_eq_true rfl) d_X12_place_22 (s_X12_in (μ := μ)   ?_)
      show G X (Rm (d + 2)) mX12_place 25 [(0, .ref r0), (1, .int l1), (2, .int l2), (3, .int l3)] [.int (e_X12_in μ l3.toInt64 0 2), .ref r0] μ 0 0 K
      refine G_if_eq (tgt := 32) d_X12_place_25 rfl (fun c2 => ?_) (fun c2 => ?_)
      ·
        refine G_sub (L' := [(1, .int l1), (2, .int l2), (3, .int l3)]) [1, 2, 3] rfl ?_
        exact (h_3 c0 c1 c2)
      ·
        refine G_iconst d_X12_place_28 ic_1 ?_
        refine G_goto (tgt := 33) d_X12_place_29 rfl ?_
        refine G_sub (L' := [(1, .int l1), (2, .int l2), (3, .int l3)]) [1, 2, 3] rfl ?_
        exact (h_4 c0 c1 c2)
theorem b_X12_place_32 {X : cX} {d : Nat} {μ : mM} {K : Option Value → mM → Prop} {l1 : Int32} {l2 : Int32} {l3 : Int32} {q0 : Nat} (h : G X (Rm (d + 2)) mX12_place 33 [(1, .int l1), (2, .int l2), (3, .int l3)] [.int 0, .ref q0] μ 0 0 K) : G X (Rm (d + 2)) mX12_place 32 [(1, .int l1), (2, .int l2), (3, .int l3)] [.ref q0] μ 0 0 K := by
  refine G_iconst d_X12_place_32 ic_0 ?_
  exact h
theorem b_X12_place_33 {X : cX} {d : Nat} {μ : mM} {K : Option Value → mM → Prop} {l1 : Int32} {l2 : Int32} {l3 : Int32} {q0 : Nat} {v1 : Int32} (hw12_q0 : WF12 μ q0) (hc_becomes : Ct X (Rm (d + 1)) mX12_becomes [.ref q0, .int v1, .int (((6 : Int32) + ((6 : Int32) * l1)) + l2), .int l3] μ (fun r μ2 => G X (Rm (d + 2)) mX12_place 46 [] (r.toList ++ []) μ2 0 0 K)) : G X (Rm (d + 2)) mX12_place 33 [(1, .int l1), (2, .int l2), (3, .int l3)] [.int v1, .ref q0] μ 0 0 K := by
  refine G_bipush d_X12_place_33 bp_6 ?_
  refine G_bipush d_X12_place_35 bp_6 ?_
  refine G_iload_n d_X12_place_37 rfl 0 rfl ?_
  refine G_imul d_X12_place_38 ?_
  refine G_iadd d_X12_place_39 ?_
  refine G_iload_n d_X12_place_40 rfl 1 rfl ?_
  refine G_iadd d_X12_place_41 ?_
  refine G_iload_n d_X12_place_42 rfl 2 rfl ?_
  refine G_sub (L' := []) [] rfl ?_
  refine G_callV (M' := mX12_becomes) (R' := (Rm (d + 1))) (S := []) [.int v1, .int (((6 : Int32) + ((6 : Int32) * l1)) + l2), .int l3] 12 (w12_kd hw12_q0) cok12 rfl ok_X12_becomes ml_X12_244 pn_X12_becomes (ru_Rm (by decide)) (Nat.le_of_ble_eq_true rfl) d_X12_place_43 ?_
  exact hc_becomes
theorem b_X12_place_46 {X : cX} {d : Nat} {μ : mM} {K : Option Value → mM → Prop} {v0 : Int32} (hK : K (some (.int v0)) μ) : G X (Rm (d + 2)) mX12_place 46 [] [.int v0] μ 0 0 K := by
  exact G_iret rfl rfl rfl d_X12_place_46 hK
theorem d_X12_lead_0 : decode cX12_lead 0 = .ok (.aload_n 0, 1) := by decide +kernel
theorem d_X12_lead_1 : decode cX12_lead 1 = .ok (.aload_n 0, 1) := by decide +kernel
theorem d_X12_lead_2 : decode cX12_lead 2 = .ok (.iload_n 1, 1) := by decide +kernel
theorem d_X12_lead_3 : decode cX12_lead 3 = .ok (.invokevirtual 192, 3) := by decide +kernel
theorem d_X12_lead_6 : decode cX12_lead 6 = .ok (.ifCond .eq 27, 3) := by decide +kernel
theorem d_X12_lead_9 : decode cX12_lead 9 = .ok (.aload_n 0, 1) := by decide +kernel
theorem d_X12_lead_10 : decode cX12_lead 10 = .ok (.iload_n 2, 1) := by decide +kernel
theorem d_X12_lead_11 : decode cX12_lead 11 = .ok (.invokevirtual 192, 3) := by decide +kernel
theorem d_X12_lead_14 : decode cX12_lead 14 = .ok (.ifCond .eq 19, 3) := by decide +kernel
theorem d_X12_lead_17 : decode cX12_lead 17 = .ok (.iload_n 3, 1) := by decide +kernel
theorem d_X12_lead_18 : decode cX12_lead 18 = .ok (.i2l, 1) := by decide +kernel
theorem d_X12_lead_19 : decode cX12_lead 19 = .ok (.lconst 0, 1) := by decide +kernel
theorem d_X12_lead_20 : decode cX12_lead 20 = .ok (.ldc2_w 103, 3) := by decide +kernel
theorem d_X12_lead_23 : decode cX12_lead 23 = .ok (.invokestatic 61, 3) := by decide +kernel
theorem d_X12_lead_26 : decode cX12_lead 26 = .ok (.ifCond .eq 7, 3) := by decide +kernel
theorem d_X12_lead_29 : decode cX12_lead 29 = .ok (.iconst 1, 1) := by decide +kernel
theorem d_X12_lead_30 : decode cX12_lead 30 = .ok (.goto 4, 3) := by decide +kernel
theorem d_X12_lead_33 : decode cX12_lead 33 = .ok (.iconst 0, 1) := by decide +kernel
theorem d_X12_lead_34 : decode cX12_lead 34 = .ok (.bipush 24, 2) := by decide +kernel
theorem d_X12_lead_36 : decode cX12_lead 36 = .ok (.bipush 6, 2) := by decide +kernel
theorem d_X12_lead_38 : decode cX12_lead 38 = .ok (.iload_n 1, 1) := by decide +kernel
theorem d_X12_lead_39 : decode cX12_lead 39 = .ok (.imul, 1) := by decide +kernel
theorem d_X12_lead_40 : decode cX12_lead 40 = .ok (.iadd, 1) := by decide +kernel
theorem d_X12_lead_41 : decode cX12_lead 41 = .ok (.iload_n 2, 1) := by decide +kernel
theorem d_X12_lead_42 : decode cX12_lead 42 = .ok (.iadd, 1) := by decide +kernel
theorem d_X12_lead_43 : decode cX12_lead 43 = .ok (.iload_n 3, 1) := by decide +kernel
theorem d_X12_lead_44 : decode cX12_lead 44 = .ok (.invokevirtual 244, 3) := by decide +kernel
theorem d_X12_lead_47 : decode cX12_lead 47 = .ok (.ireturn, 1) := by decide +kernel
theorem b_X12_lead_0 {X : cX} {d : Nat} {μ : mM} {K : Option Value → mM → Prop} {r0 : Nat} {l1 : Int32} {l2 : Int32} {l3 : Int32} (hw12_r0 : WF12 μ r0) (hs : e_X12_in μ l1.toInt64 0 (((e_X12_nodes μ r0) - 1).toInt64) = 0 ∨ e_X12_in μ l1.toInt64 0 (((e_X12_nodes μ r0) - 1).toInt64) = 1) (h : (e_X12_isNode μ r0 l1) = 0 → G X (Rm (d + 2)) mX12_lead 33 [(1, .int l1), (2, .int l2), (3, .int l3)] [.ref r0] μ 0 0 K) (hs_2 : ¬ (e_X12_isNode μ r0 l1) = 0 → e_X12_in μ l2.toInt64 0 (((e_X12_nodes μ r0) - 1).toInt64) = 0 ∨ e_X12_in μ l2.toInt64 0 (((e_X12_nodes μ r0) - 1).toInt64) = 1) (h_2 : ¬ (e_X12_isNode μ r0 l1) = 0 → (e_X12_isNode μ r0 l2) = 0 → G X (Rm (d + 2)) mX12_lead 33 [(1, .int l1), (2, .int l2), (3, .int l3)] [.ref r0] μ 0 0 K) (h_3 : ¬ (e_X12_isNode μ r0 l1) = 0 → ¬ (e_X12_isNode μ r0 l2) = 0 → (e_X12_in μ l3.toInt64 0 2) = 0 → G X (Rm (d + 2)) mX12_lead 33 [(1, .int l1), (2, .int l2), (3, .int l3)] [.ref r0] μ 0 0 K) (h_4 : ¬ (e_X12_isNode μ r0 l1) = 0 → ¬ (e_X12_isNode μ r0 l2) = 0 → ¬ (e_X12_in μ l3.toInt64 0 2) = 0 → G X (Rm (d + 2)) mX12_lead 34 [(1, .int l1), (2, .int l2), (3, .int l3)] [.int 1, .ref r0] μ 0 0 K) : G X (Rm (d + 2)) mX12_lead 0 [(0, .ref r0), (1, .int l1), (2, .int l2), (3, .int l3)] [] μ 0 0 K := by
  refine G_aload_n d_X12_lead_0 rfl 0 rfl ?_
  refine G_aload_n d_X12_lead_1 rfl 0 rfl ?_
  refine G_iload_n d_X12_lead_2 rfl 1 rfl ?_
  refine G_callV (M' := mX12_isNode) (R' := (Rm (d + 1))) (S := [.ref r0]) [.int l1] 12 (w12_kd hw12_r0) cok12 rfl ok_X12_isNode ml_X12_192 pn_X12_isNode (ru_Rm (by decide)) (Nat.le_of_ble_eq_true rfl) d_X12_lead_3 (s_X12_isNode (μ := μ)  hw12_r0 hs ?_)
  show G X (Rm (d + 2)) mX12_lead 6 [(0, .ref r0), (1, .int l1), (2, .int l2), (3, .int l3)] [.int (e_X12_isNode μ r0 l1), .ref r0] μ 0 0 K
  refine G_if_eq (tgt := 33) d_X12_lead_6 rfl (fun c0 => ?_) (fun c0 => ?_)
  ·
    refine G_sub (L' := [(1, .int l1), (2, .int l2), (3, .int l3)]) [1, 2, 3] rfl ?_
    exact (h c0)
  ·
    refine G_aload_n d_X12_lead_9 rfl 0 rfl ?_
    refine G_iload_n d_X12_lead_10 rfl 2 rfl ?_
    refine G_callV (M' := mX12_isNode) (R' := (Rm (d + 1))) (S := [.ref r0]) [.int l2] 12 (w12_kd hw12_r0) cok12 rfl ok_X12_isNode ml_X12_192 pn_X12_isNode (ru_Rm (by decide)) (Nat.le_of_ble_eq_true rfl) d_X12_lead_11 (s_X12_isNode (μ := μ)  hw12_r0 (hs_2 c0) ?_)
    show G X (Rm (d + 2)) mX12_lead 14 [(0, .ref r0), (1, .int l1), (2, .int l2), (3, .int l3)] [.int (e_X12_isNode μ r0 l2), .ref r0] μ 0 0 K
    refine G_if_eq (tgt := 33) d_X12_lead_14 rfl (fun c1 => ?_) (fun c1 => ?_)
    ·
      refine G_sub (L' := [(1, .int l1), (2, .int l2), (3, .int l3)]) [1, 2, 3] rfl ?_
      exact (h_2 c0 c1)
    ·
      refine G_iload_n d_X12_lead_17 rfl 3 rfl ?_
      refine G_i2l (v := l3.toInt64) d_X12_lead_18 rfl ?_
      refine G_lconst (v := 0) d_X12_lead_19 rfl ?_
      refine G_ldc2 kl_X12_103 d_X12_lead_20 ?_
      refine G_callS (M' := mX12_in) (R' := (Rm (d + 1))) (S := [.ref r0]) [.long l3.toInt64, .long 0, .long 2] ok_X12_in ml_X12_61 pn_X12_in (ru_Rm (by decide)) (Nat.le_of_ble_eq_true rfl) d_X12_lead_23 (s_X12_in (μ := μ)   ?_)
      show G X (Rm (d + 2)) mX12_lead 26 [(0, .ref r0), (1, .int l1), (2, .int l2), (3, .int l3)] [.int (e_X12_in μ l3.toInt64 0 2), .ref r0] μ 0 0 K
      refine G_if_eq (tgt := 33) d_X12_lead_26 rfl (fun c2 => ?_) (fun c2 => ?_)
      ·
        refine G_sub (L' := [(1, .int l1), (2, .int l2), (3, .int l3)]) [1, 2, 3] rfl ?_
        exact (h_3 c0 c1 c2)
      ·
        refine G_iconst d_X12_lead_29 ic_1 ?_
        refine G_goto (tgt := 34) d_X12_lead_30 rfl ?_
        refine G_sub (L' := [(1, .int l1), (2, .int l2), (3, .int l3)]) [1, 2, 3] rfl ?_
        exact (h_4 c0 c1 c2)
theorem b_X12_lead_33 {X : cX} {d : Nat} {μ : mM} {K : Option Value → mM → Prop} {l1 : Int32} {l2 : Int32} {l3 : Int32} {q0 : Nat} (h : G X (Rm (d + 2)) mX12_lead 34 [(1, .int l1), (2, .int l2), (3, .int l3)] [.int 0, .ref q0] μ 0 0 K) : G X (Rm (d + 2)) mX12_lead 33 [(1, .int l1), (2, .int l2), (3, .int l3)] [.ref q0] μ 0 0 K := by
  refine G_iconst d_X12_lead_33 ic_0 ?_
  exact h
theorem b_X12_lead_34 {X : cX} {d : Nat} {μ : mM} {K : Option Value → mM → Prop} {l1 : Int32} {l2 : Int32} {l3 : Int32} {q0 : Nat} {v1 : Int32} (hw12_q0 : WF12 μ q0) (hc_becomes : Ct X (Rm (d + 1)) mX12_becomes [.ref q0, .int v1, .int (((24 : Int32) + ((6 : Int32) * l1)) + l2), .int l3] μ (fun r μ2 => G X (Rm (d + 2)) mX12_lead 47 [] (r.toList ++ []) μ2 0 0 K)) : G X (Rm (d + 2)) mX12_lead 34 [(1, .int l1), (2, .int l2), (3, .int l3)] [.int v1, .ref q0] μ 0 0 K := by
  refine G_bipush d_X12_lead_34 bp_24 ?_
  refine G_bipush d_X12_lead_36 bp_6 ?_
  refine G_iload_n d_X12_lead_38 rfl 0 rfl ?_
  refine G_imul d_X12_lead_39 ?_
  refine G_iadd d_X12_lead_40 ?_
  refine G_iload_n d_X12_lead_41 rfl 1 rfl ?_
  refine G_iadd d_X12_lead_42 ?_
  refine G_iload_n d_X12_lead_43 rfl 2 rfl ?_
  refine G_sub (L' := []) [] rfl ?_
  refine G_callV (M' := mX12_becomes) (R' := (Rm (d + 1))) (S := []) [.int v1, .int (((24 : Int32) + ((6 : Int32) * l1)) + l2), .int l3] 12 (w12_kd hw12_q0) cok12 rfl ok_X12_becomes ml_X12_244 pn_X12_becomes (ru_Rm (by decide)) (Nat.le_of_ble_eq_true rfl) d_X12_lead_44 ?_
  exact hc_becomes
theorem b_X12_lead_47 {X : cX} {d : Nat} {μ : mM} {K : Option Value → mM → Prop} {v0 : Int32} (hK : K (some (.int v0)) μ) : G X (Rm (d + 2)) mX12_lead 47 [] [.int v0] μ 0 0 K := by
  exact G_iret rfl rfl rfl d_X12_lead_47 hK
theorem d_X12_leads_0 : decode cX12_leads 0 = .ok (.iconst 0, 1) := by decide +kernel
theorem d_X12_leads_1 : decode cX12_leads 1 = .ok (.istore 4, 2) := by decide +kernel
theorem d_X12_leads_3 : decode cX12_leads 3 = .ok (.iload 4, 2) := by decide +kernel
theorem d_X12_leads_5 : decode cX12_leads 5 = .ok (.bipush 36, 2) := by decide +kernel
theorem d_X12_leads_7 : decode cX12_leads 7 = .ok (.if_icmp .ge 83, 3) := by decide +kernel
theorem d_X12_leads_10 : decode cX12_leads 10 = .ok (.aload_n 0, 1) := by decide +kernel
theorem d_X12_leads_11 : decode cX12_leads 11 = .ok (.getfield 7, 3) := by decide +kernel
theorem d_X12_leads_14 : decode cX12_leads 14 = .ok (.bipush 24, 2) := by decide +kernel
theorem d_X12_leads_16 : decode cX12_leads 16 = .ok (.iload 4, 2) := by decide +kernel
theorem d_X12_leads_18 : decode cX12_leads 18 = .ok (.iadd, 1) := by decide +kernel
theorem d_X12_leads_19 : decode cX12_leads 19 = .ok (.iaload, 1) := by decide +kernel
theorem d_X12_leads_20 : decode cX12_leads 20 = .ok (.iconst 2, 1) := by decide +kernel
theorem d_X12_leads_21 : decode cX12_leads 21 = .ok (.aload_n 0, 1) := by decide +kernel
theorem d_X12_leads_22 : decode cX12_leads 22 = .ok (.iload_n 1, 1) := by decide +kernel
theorem d_X12_leads_23 : decode cX12_leads 23 = .ok (.iload 4, 2) := by decide +kernel
theorem d_X12_leads_25 : decode cX12_leads 25 = .ok (.bipush 6, 2) := by decide +kernel
theorem d_X12_leads_27 : decode cX12_leads 27 = .ok (.idiv, 1) := by decide +kernel
theorem d_X12_leads_28 : decode cX12_leads 28 = .ok (.invokevirtual 178, 3) := by decide +kernel
theorem d_X12_leads_31 : decode cX12_leads 31 = .ok (.isub, 1) := by decide +kernel
theorem d_X12_leads_32 : decode cX12_leads 32 = .ok (.invokestatic 172, 3) := by decide +kernel
theorem d_X12_leads_35 : decode cX12_leads 35 = .ok (.istore 5, 2) := by decide +kernel
theorem d_X12_leads_37 : decode cX12_leads 37 = .ok (.aload_n 0, 1) := by decide +kernel
theorem d_X12_leads_38 : decode cX12_leads 38 = .ok (.getfield 7, 3) := by decide +kernel
theorem d_X12_leads_41 : decode cX12_leads 41 = .ok (.bipush 24, 2) := by decide +kernel
theorem d_X12_leads_43 : decode cX12_leads 43 = .ok (.iload 4, 2) := by decide +kernel
theorem d_X12_leads_45 : decode cX12_leads 45 = .ok (.iadd, 1) := by decide +kernel
theorem d_X12_leads_46 : decode cX12_leads 46 = .ok (.iload_n 3, 1) := by decide +kernel
theorem d_X12_leads_47 : decode cX12_leads 47 = .ok (.ifCond .eq 34, 3) := by decide +kernel
theorem d_X12_leads_50 : decode cX12_leads 50 = .ok (.iload 5, 2) := by decide +kernel
theorem d_X12_leads_52 : decode cX12_leads 52 = .ok (.aload_n 0, 1) := by decide +kernel
theorem d_X12_leads_53 : decode cX12_leads 53 = .ok (.iload_n 1, 1) := by decide +kernel
theorem d_X12_leads_54 : decode cX12_leads 54 = .ok (.iload 4, 2) := by decide +kernel
theorem d_X12_leads_56 : decode cX12_leads 56 = .ok (.bipush 6, 2) := by decide +kernel
theorem d_X12_leads_58 : decode cX12_leads 58 = .ok (.idiv, 1) := by decide +kernel
theorem d_X12_leads_59 : decode cX12_leads 59 = .ok (.invokevirtual 178, 3) := by decide +kernel
theorem d_X12_leads_62 : decode cX12_leads 62 = .ok (.aload_n 0, 1) := by decide +kernel
theorem d_X12_leads_63 : decode cX12_leads 63 = .ok (.iload_n 2, 1) := by decide +kernel
theorem d_X12_leads_64 : decode cX12_leads 64 = .ok (.iload 4, 2) := by decide +kernel
theorem d_X12_leads_66 : decode cX12_leads 66 = .ok (.bipush 6, 2) := by decide +kernel
theorem d_X12_leads_68 : decode cX12_leads 68 = .ok (.irem, 1) := by decide +kernel
theorem d_X12_leads_69 : decode cX12_leads 69 = .ok (.invokevirtual 178, 3) := by decide +kernel
theorem d_X12_leads_72 : decode cX12_leads 72 = .ok (.invokestatic 172, 3) := by decide +kernel
theorem d_X12_leads_75 : decode cX12_leads 75 = .ok (.invokestatic 175, 3) := by decide +kernel
theorem d_X12_leads_78 : decode cX12_leads 78 = .ok (.goto 5, 3) := by decide +kernel
theorem d_X12_leads_81 : decode cX12_leads 81 = .ok (.iload 5, 2) := by decide +kernel
theorem d_X12_leads_83 : decode cX12_leads 83 = .ok (.iastore, 1) := by decide +kernel
theorem d_X12_leads_84 : decode cX12_leads 84 = .ok (.iinc 4 1, 3) := by decide +kernel
theorem d_X12_leads_87 : decode cX12_leads 87 = .ok (.goto (-84), 3) := by decide +kernel
theorem d_X12_leads_90 : decode cX12_leads 90 = .ok (.return_, 1) := by decide +kernel
theorem b_X12_leads_0 {X : cX} {d : Nat} {μ : mM} {K : Option Value → mM → Prop} {r0 : Nat} {l1 : Int32} {l2 : Int32} {l3 : Int32} (h : G X (Rm (d + 1)) mX12_leads 3 [(0, .ref r0), (1, .int l1), (2, .int l2), (3, .int l3), (4, .int (nI 0))] [] μ 0 0 K) : G X (Rm (d + 1)) mX12_leads 0 [(0, .ref r0), (1, .int l1), (2, .int l2), (3, .int l3)] [] μ 0 0 K := by
  refine G_iconst d_X12_leads_0 ic_0 ?_
  refine G_istore (L' := [(4, .int (nI 0)), (0, .ref r0), (1, .int l1), (2, .int l2), (3, .int l3)]) d_X12_leads_1 (by decide) rfl ?_
  refine G_sub (L' := [(0, .ref r0), (1, .int l1), (2, .int l2), (3, .int l3), (4, .int (nI 0))]) [1, 2, 3, 4, 0] rfl ?_
  exact h
theorem b_X12_leads_3 {X : cX} {d : Nat} {μ : mM} {K : Option Value → mM → Prop} {r0 : Nat} {i1 : Nat} {i2 : Nat} {l3 : Int32} {i4 : Nat} {j0 : Nat} {j1 : Nat} (hK : (36 : Int32) ≤ (nI i4) → K none μ) (hw12_r0 : WF12 μ r0) (hb : ¬ (36 : Int32) ≤ (nI i4) → (24 + i4) < 366) (hi_j0 : ¬ (36 : Int32) ≤ (nI i4) → (nI i4) / 6 = nI j0) (hs : ¬ (36 : Int32) ≤ (nI i4) → ((6 + (6 * i1)) + j0) < 366) (h : ¬ (36 : Int32) ≤ (nI i4) → l3 = 0 → G X (Rm (d + 1)) mX12_leads 83 [(0, .ref r0), (1, .int (nI i1)), (2, .int (nI i2)), (3, .int l3), (4, .int (nI i4))] [.int (e_X12_and μ (iv μ (r0 + 1) (24 + i4)) ((2 : Int32) - (e_X12_atOf μ r0 i1 j0))), .int ((24 : Int32) + (nI i4)), .ref (r0 + 1)] μ 0 0 K) (hi_j0_2 : ¬ (36 : Int32) ≤ (nI i4) → ¬ l3 = 0 → (nI i4) / 6 = nI j0) (hs_2 : ¬ (36 : Int32) ≤ (nI i4) → ¬ l3 = 0 → ((6 + (6 * i1)) + j0) < 366) (hi_j1 : ¬ (36 : Int32) ≤ (nI i4) → ¬ l3 = 0 → (nI i4) - (nI i4) / 6 * 6 = nI j1) (hs_3 : ¬ (36 : Int32) ≤ (nI i4) → ¬ l3 = 0 → ((6 + (6 * i2)) + j1) < 366) (h_2 : ¬ (36 : Int32) ≤ (nI i4) → ¬ l3 = 0 → G X (Rm (d + 1)) mX12_leads 83 [(0, .ref r0), (1, .int (nI i1)), (2, .int (nI i2)), (3, .int l3), (4, .int (nI i4))] [.int (e_X12_or μ (e_X12_and μ (iv μ (r0 + 1) (24 + i4)) ((2 : Int32) - (e_X12_atOf μ r0 i1 j0))) (e_X12_and μ (e_X12_atOf μ r0 i1 j0) (e_X12_atOf μ r0 i2 j1))), .int ((24 : Int32) + (nI i4)), .ref (r0 + 1)] μ 0 0 K) : G X (Rm (d + 1)) mX12_leads 3 [(0, .ref r0), (1, .int (nI i1)), (2, .int (nI i2)), (3, .int l3), (4, .int (nI i4))] [] μ 0 0 K := by
  refine G_iload d_X12_leads_3 4 rfl ?_
  refine G_bipush d_X12_leads_5 bp_36 ?_
  refine G_icmp_ge (tgt := 90) d_X12_leads_7 rfl (fun c0 => ?_) (fun c0 => ?_)
  ·
    exact G_vret rfl rfl rfl d_X12_leads_90 (hK c0)
  ·
    refine G_aload_n d_X12_leads_10 rfl 0 rfl ?_
    refine G_getR (r := r0 + 1) 12 0 (w12_kd hw12_r0) (w12_f0 hw12_r0) cok12 (by decide) rfl fl_X12_7 d_X12_leads_11 ?_
    refine G_bipush d_X12_leads_14 bp_24 ?_
    refine G_iload d_X12_leads_16 4 rfl ?_
    refine G_iadd d_X12_leads_18 ?_
    refine G_iald (24 + i4) (w12_k0 hw12_r0) (nadd rfl rfl) (hb c0) d_X12_leads_19 ?_
    refine G_iconst d_X12_leads_20 ic_2 ?_
    refine G_aload_n d_X12_leads_21 rfl 0 rfl ?_
    refine G_iload_n d_X12_leads_22 rfl 1 rfl ?_
    refine G_iload d_X12_leads_23 4 rfl ?_
    refine G_bipush d_X12_leads_25 bp_6 ?_
    refine G_idiv d_X12_leads_27 (by decide) ?_
    refine G_stk (S' := [.int (nI j0), .int (nI i1), .ref r0, .int 2, .int (iv μ (r0 + 1) (24 + i4))]) (by rw [(hi_j0 c0)]) ?_
    refine G_callV (M' := mX12_atOf) (R' := (Rm d)) (S := [.int 2, .int (iv μ (r0 + 1) (24 + i4))]) [.int (nI i1), .int (nI j0)] 12 (w12_kd hw12_r0) cok12 rfl ok_X12_atOf ml_X12_178 pn_X12_atOf (ru_Rm (by decide)) (Nat.le_of_ble_eq_true rfl) d_X12_leads_28 (s_X12_atOf (μ := μ) (i1 := i1) (i2 := j0) hw12_r0 (hs c0) ?_)
    show G X (Rm (d + 1)) mX12_leads 31 [(0, .ref r0), (1, .int (nI i1)), (2, .int (nI i2)), (3, .int l3), (4, .int (nI i4))] [.int (e_X12_atOf μ r0 i1 j0), .int 2, .int (iv μ (r0 + 1) (24 + i4))] μ 0 0 K
    refine G_isub d_X12_leads_31 ?_
    refine G_callS (M' := mX12_and) (R' := (Rm d)) (S := []) [.int (iv μ (r0 + 1) (24 + i4)), .int ((2 : Int32) - (e_X12_atOf μ r0 i1 j0))] ok_X12_and ml_X12_172 pn_X12_and (ru_Rm (by decide)) (Nat.le_of_ble_eq_true rfl) d_X12_leads_32 (s_X12_and (μ := μ)   ?_)
    show G X (Rm (d + 1)) mX12_leads 35 [(0, .ref r0), (1, .int (nI i1)), (2, .int (nI i2)), (3, .int l3), (4, .int (nI i4))] [.int (e_X12_and μ (iv μ (r0 + 1) (24 + i4)) ((2 : Int32) - (e_X12_atOf μ r0 i1 j0)))] μ 0 0 K
    refine G_istore (L' := [(5, .int (e_X12_and μ (iv μ (r0 + 1) (24 + i4)) ((2 : Int32) - (e_X12_atOf μ r0 i1 j0)))), (0, .ref r0), (1, .int (nI i1)), (2, .int (nI i2)), (3, .int l3), (4, .int (nI i4))]) d_X12_leads_35 (by decide) rfl ?_
    refine G_aload_n d_X12_leads_37 rfl 1 rfl ?_
    refine G_getR (r := r0 + 1) 12 0 (w12_kd hw12_r0) (w12_f0 hw12_r0) cok12 (by decide) rfl fl_X12_7 d_X12_leads_38 ?_
    refine G_bipush d_X12_leads_41 bp_24 ?_
    refine G_iload d_X12_leads_43 5 rfl ?_
    refine G_iadd d_X12_leads_45 ?_
    refine G_iload_n d_X12_leads_46 rfl 4 rfl ?_
    refine G_if_eq (tgt := 81) d_X12_leads_47 rfl (fun c1 => ?_) (fun c1 => ?_)
    ·
      refine G_iload d_X12_leads_81 0 rfl ?_
      refine G_sub (L' := [(0, .ref r0), (1, .int (nI i1)), (2, .int (nI i2)), (3, .int l3), (4, .int (nI i4))]) [1, 2, 3, 4, 5] rfl ?_
      exact (h c0 c1)
    ·
      refine G_iload d_X12_leads_50 0 rfl ?_
      refine G_aload_n d_X12_leads_52 rfl 1 rfl ?_
      refine G_iload_n d_X12_leads_53 rfl 2 rfl ?_
      refine G_iload d_X12_leads_54 5 rfl ?_
      refine G_bipush d_X12_leads_56 bp_6 ?_
      refine G_idiv d_X12_leads_58 (by decide) ?_
      refine G_stk (S' := [.int (nI j0), .int (nI i1), .ref r0, .int (e_X12_and μ (iv μ (r0 + 1) (24 + i4)) ((2 : Int32) - (e_X12_atOf μ r0 i1 j0))), .int ((24 : Int32) + (nI i4)), .ref (r0 + 1)]) (by rw [(hi_j0_2 c0 c1)]) ?_
      refine G_callV (M' := mX12_atOf) (R' := (Rm d)) (S := [.int (e_X12_and μ (iv μ (r0 + 1) (24 + i4)) ((2 : Int32) - (e_X12_atOf μ r0 i1 j0))), .int ((24 : Int32) + (nI i4)), .ref (r0 + 1)]) [.int (nI i1), .int (nI j0)] 12 (w12_kd hw12_r0) cok12 rfl ok_X12_atOf ml_X12_178 pn_X12_atOf (ru_Rm (by decide)) (Nat.le_of_ble_eq_true rfl) d_X12_leads_59 (s_X12_atOf (μ := μ) (i1 := i1) (i2 := j0) hw12_r0 (hs_2 c0 c1) ?_)
      show G X (Rm (d + 1)) mX12_leads 62 [(5, .int (e_X12_and μ (iv μ (r0 + 1) (24 + i4)) ((2 : Int32) - (e_X12_atOf μ r0 i1 j0)))), (0, .ref r0), (1, .int (nI i1)), (2, .int (nI i2)), (3, .int l3), (4, .int (nI i4))] [.int (e_X12_atOf μ r0 i1 j0), .int (e_X12_and μ (iv μ (r0 + 1) (24 + i4)) ((2 : Int32) - (e_X12_atOf μ r0 i1 j0))), .int ((24 : Int32) + (nI i4)), .ref (r0 + 1)] μ 0 0 K
      refine G_aload_n d_X12_leads_62 rfl 1 rfl ?_
      refine G_iload_n d_X12_leads_63 rfl 3 rfl ?_
      refine G_iload d_X12_leads_64 5 rfl ?_
      refine G_bipush d_X12_leads_66 bp_6 ?_
      refine G_irem d_X12_leads_68 (by decide) ?_
      refine G_stk (S' := [.int (nI j1), .int (nI i2), .ref r0, .int (e_X12_atOf μ r0 i1 j0), .int (e_X12_and μ (iv μ (r0 + 1) (24 + i4)) ((2 : Int32) - (e_X12_atOf μ r0 i1 j0))), .int ((24 : Int32) + (nI i4)), .ref (r0 + 1)]) (by rw [(hi_j1 c0 c1)]) ?_
      refine G_callV (M' := mX12_atOf) (R' := (Rm d)) (S := [.int (e_X12_atOf μ r0 i1 j0), .int (e_X12_and μ (iv μ (r0 + 1) (24 + i4)) ((2 : Int32) - (e_X12_atOf μ r0 i1 j0))), .int ((24 : Int32) + (nI i4)), .ref (r0 + 1)]) [.int (nI i2), .int (nI j1)] 12 (w12_kd hw12_r0) cok12 rfl ok_X12_atOf ml_X12_178 pn_X12_atOf (ru_Rm (by decide)) (Nat.le_of_ble_eq_true rfl) d_X12_leads_69 (s_X12_atOf (μ := μ) (i1 := i2) (i2 := j1) hw12_r0 (hs_3 c0 c1) ?_)
      show G X (Rm (d + 1)) mX12_leads 72 [(5, .int (e_X12_and μ (iv μ (r0 + 1) (24 + i4)) ((2 : Int32) - (e_X12_atOf μ r0 i1 j0)))), (0, .ref r0), (1, .int (nI i1)), (2, .int (nI i2)), (3, .int l3), (4, .int (nI i4))] [.int (e_X12_atOf μ r0 i2 j1), .int (e_X12_atOf μ r0 i1 j0), .int (e_X12_and μ (iv μ (r0 + 1) (24 + i4)) ((2 : Int32) - (e_X12_atOf μ r0 i1 j0))), .int ((24 : Int32) + (nI i4)), .ref (r0 + 1)] μ 0 0 K
      refine G_callS (M' := mX12_and) (R' := (Rm d)) (S := [.int (e_X12_and μ (iv μ (r0 + 1) (24 + i4)) ((2 : Int32) - (e_X12_atOf μ r0 i1 j0))), .int ((24 : Int32) + (nI i4)), .ref (r0 + 1)]) [.int (e_X12_atOf μ r0 i1 j0), .int (e_X12_atOf μ r0 i2 j1)] ok_X12_and ml_X12_172 pn_X12_and (ru_Rm (by decide)) (Nat.le_of_ble_eq_true rfl) d_X12_leads_72 (s_X12_and (μ := μ)   ?_)
      show G X (Rm (d + 1)) mX12_leads 75 [(5, .int (e_X12_and μ (iv μ (r0 + 1) (24 + i4)) ((2 : Int32) - (e_X12_atOf μ r0 i1 j0)))), (0, .ref r0), (1, .int (nI i1)), (2, .int (nI i2)), (3, .int l3), (4, .int (nI i4))] [.int (e_X12_and μ (e_X12_atOf μ r0 i1 j0) (e_X12_atOf μ r0 i2 j1)), .int (e_X12_and μ (iv μ (r0 + 1) (24 + i4)) ((2 : Int32) - (e_X12_atOf μ r0 i1 j0))), .int ((24 : Int32) + (nI i4)), .ref (r0 + 1)] μ 0 0 K
      refine G_callS (M' := mX12_or) (R' := (Rm d)) (S := [.int ((24 : Int32) + (nI i4)), .ref (r0 + 1)]) [.int (e_X12_and μ (iv μ (r0 + 1) (24 + i4)) ((2 : Int32) - (e_X12_atOf μ r0 i1 j0))), .int (e_X12_and μ (e_X12_atOf μ r0 i1 j0) (e_X12_atOf μ r0 i2 j1))] ok_X12_or ml_X12_175 pn_X12_or (ru_Rm (by decide)) (Nat.le_of_ble_eq_true rfl) d_X12_leads_75 (s_X12_or (μ := μ)   ?_)
      show G X (Rm (d + 1)) mX12_leads 78 [(5, .int (e_X12_and μ (iv μ (r0 + 1) (24 + i4)) ((2 : Int32) - (e_X12_atOf μ r0 i1 j0)))), (0, .ref r0), (1, .int (nI i1)), (2, .int (nI i2)), (3, .int l3), (4, .int (nI i4))] [.int (e_X12_or μ (e_X12_and μ (iv μ (r0 + 1) (24 + i4)) ((2 : Int32) - (e_X12_atOf μ r0 i1 j0))) (e_X12_and μ (e_X12_atOf μ r0 i1 j0) (e_X12_atOf μ r0 i2 j1))), .int ((24 : Int32) + (nI i4)), .ref (r0 + 1)] μ 0 0 K
      refine G_goto (tgt := 83) d_X12_leads_78 rfl ?_
      refine G_sub (L' := [(0, .ref r0), (1, .int (nI i1)), (2, .int (nI i2)), (3, .int l3), (4, .int (nI i4))]) [1, 2, 3, 4, 5] rfl ?_
      exact (h_2 c0 c1)
theorem b_X12_leads_83 {X : cX} {d : Nat} {μ : mM} {K : Option Value → mM → Prop} {r0 : Nat} {l1 : Int32} {l2 : Int32} {l3 : Int32} {i4 : Nat} {q0 : Nat} {v1 : Int32} {v2 : Int32} {n0 : Nat} {j0 : Nat} (hk_q0 : kd μ q0 = (1, n0)) (hi_j0 : v1 = nI j0) (hb : j0 < n0) (h : G X (Rm (d + 1)) mX12_leads 3 [(0, .ref r0), (1, .int l1), (2, .int l2), (3, .int l3), (4, .int (nI (i4 + 1)))] [] (wi μ q0 j0 v2) 0 0 K) : G X (Rm (d + 1)) mX12_leads 83 [(0, .ref r0), (1, .int l1), (2, .int l2), (3, .int l3), (4, .int (nI i4))] [.int v2, .int v1, .ref q0] μ 0 0 K := by
  refine G_iast j0 hk_q0 hi_j0 hb d_X12_leads_83 ?_
  refine G_iinc (L' := [(4, .int (nI (i4 + 1))), (0, .ref r0), (1, .int l1), (2, .int l2), (3, .int l3)]) d_X12_leads_84 4 rfl (inc1 i4) (by decide) rfl ?_
  refine G_goto (tgt := 3) d_X12_leads_87 rfl ?_
  refine G_sub (L' := [(0, .ref r0), (1, .int l1), (2, .int l2), (3, .int l3), (4, .int (nI (i4 + 1)))]) [1, 2, 3, 4, 0] rfl ?_
  exact h
theorem d_X12_becomesNext_0 : decode cX12_becomesNext 0 = .ok (.iconst 0, 1) := by decide +kernel
theorem d_X12_becomesNext_1 : decode cX12_becomesNext 1 = .ok (.istore_n 3, 1) := by decide +kernel
theorem d_X12_becomesNext_2 : decode cX12_becomesNext 2 = .ok (.iload_n 3, 1) := by decide +kernel
theorem d_X12_becomesNext_3 : decode cX12_becomesNext 3 = .ok (.bipush 6, 2) := by decide +kernel
theorem d_X12_becomesNext_5 : decode cX12_becomesNext 5 = .ok (.if_icmp .ge 66, 3) := by decide +kernel
theorem d_X12_becomesNext_8 : decode cX12_becomesNext 8 = .ok (.aload_n 0, 1) := by decide +kernel
theorem d_X12_becomesNext_9 : decode cX12_becomesNext 9 = .ok (.getfield 34, 3) := by decide +kernel
theorem d_X12_becomesNext_12 : decode cX12_becomesNext 12 = .ok (.iload_n 3, 1) := by decide +kernel
theorem d_X12_becomesNext_13 : decode cX12_becomesNext 13 = .ok (.iconst 0, 1) := by decide +kernel
theorem d_X12_becomesNext_14 : decode cX12_becomesNext 14 = .ok (.iastore, 1) := by decide +kernel
theorem d_X12_becomesNext_15 : decode cX12_becomesNext 15 = .ok (.iconst 0, 1) := by decide +kernel
theorem d_X12_becomesNext_16 : decode cX12_becomesNext 16 = .ok (.istore 4, 2) := by decide +kernel
theorem d_X12_becomesNext_18 : decode cX12_becomesNext 18 = .ok (.iload 4, 2) := by decide +kernel
theorem d_X12_becomesNext_20 : decode cX12_becomesNext 20 = .ok (.aload_n 0, 1) := by decide +kernel
theorem d_X12_becomesNext_21 : decode cX12_becomesNext 21 = .ok (.invokevirtual 169, 3) := by decide +kernel
theorem d_X12_becomesNext_24 : decode cX12_becomesNext 24 = .ok (.if_icmp .ge 41, 3) := by decide +kernel
theorem d_X12_becomesNext_27 : decode cX12_becomesNext 27 = .ok (.aload_n 0, 1) := by decide +kernel
theorem d_X12_becomesNext_28 : decode cX12_becomesNext 28 = .ok (.getfield 34, 3) := by decide +kernel
theorem d_X12_becomesNext_31 : decode cX12_becomesNext 31 = .ok (.iload_n 3, 1) := by decide +kernel
theorem d_X12_becomesNext_32 : decode cX12_becomesNext 32 = .ok (.aload_n 0, 1) := by decide +kernel
theorem d_X12_becomesNext_33 : decode cX12_becomesNext 33 = .ok (.getfield 34, 3) := by decide +kernel
theorem d_X12_becomesNext_36 : decode cX12_becomesNext 36 = .ok (.iload_n 3, 1) := by decide +kernel
theorem d_X12_becomesNext_37 : decode cX12_becomesNext 37 = .ok (.iaload, 1) := by decide +kernel
theorem d_X12_becomesNext_38 : decode cX12_becomesNext 38 = .ok (.aload_n 0, 1) := by decide +kernel
theorem d_X12_becomesNext_39 : decode cX12_becomesNext 39 = .ok (.iload_n 2, 1) := by decide +kernel
theorem d_X12_becomesNext_40 : decode cX12_becomesNext 40 = .ok (.iload 4, 2) := by decide +kernel
theorem d_X12_becomesNext_42 : decode cX12_becomesNext 42 = .ok (.invokevirtual 178, 3) := by decide +kernel
theorem d_X12_becomesNext_45 : decode cX12_becomesNext 45 = .ok (.aload_n 0, 1) := by decide +kernel
theorem d_X12_becomesNext_46 : decode cX12_becomesNext 46 = .ok (.iload 4, 2) := by decide +kernel
theorem d_X12_becomesNext_48 : decode cX12_becomesNext 48 = .ok (.iload_n 3, 1) := by decide +kernel
theorem d_X12_becomesNext_49 : decode cX12_becomesNext 49 = .ok (.invokevirtual 204, 3) := by decide +kernel
theorem d_X12_becomesNext_52 : decode cX12_becomesNext 52 = .ok (.invokestatic 172, 3) := by decide +kernel
theorem d_X12_becomesNext_55 : decode cX12_becomesNext 55 = .ok (.invokestatic 175, 3) := by decide +kernel
theorem d_X12_becomesNext_58 : decode cX12_becomesNext 58 = .ok (.iastore, 1) := by decide +kernel
theorem d_X12_becomesNext_59 : decode cX12_becomesNext 59 = .ok (.iinc 4 1, 3) := by decide +kernel
theorem d_X12_becomesNext_62 : decode cX12_becomesNext 62 = .ok (.goto (-44), 3) := by decide +kernel
theorem d_X12_becomesNext_65 : decode cX12_becomesNext 65 = .ok (.iinc 3 1, 3) := by decide +kernel
theorem d_X12_becomesNext_68 : decode cX12_becomesNext 68 = .ok (.goto (-66), 3) := by decide +kernel
theorem d_X12_becomesNext_71 : decode cX12_becomesNext 71 = .ok (.iconst 0, 1) := by decide +kernel
theorem d_X12_becomesNext_72 : decode cX12_becomesNext 72 = .ok (.istore_n 3, 1) := by decide +kernel
theorem d_X12_becomesNext_73 : decode cX12_becomesNext 73 = .ok (.iload_n 3, 1) := by decide +kernel
theorem d_X12_becomesNext_74 : decode cX12_becomesNext 74 = .ok (.bipush 6, 2) := by decide +kernel
theorem d_X12_becomesNext_76 : decode cX12_becomesNext 76 = .ok (.if_icmp .ge 29, 3) := by decide +kernel
theorem d_X12_becomesNext_79 : decode cX12_becomesNext 79 = .ok (.aload_n 0, 1) := by decide +kernel
theorem d_X12_becomesNext_80 : decode cX12_becomesNext 80 = .ok (.getfield 7, 3) := by decide +kernel
theorem d_X12_becomesNext_83 : decode cX12_becomesNext 83 = .ok (.bipush 6, 2) := by decide +kernel
theorem d_X12_becomesNext_85 : decode cX12_becomesNext 85 = .ok (.bipush 6, 2) := by decide +kernel
theorem d_X12_becomesNext_87 : decode cX12_becomesNext 87 = .ok (.iload_n 1, 1) := by decide +kernel
theorem d_X12_becomesNext_88 : decode cX12_becomesNext 88 = .ok (.imul, 1) := by decide +kernel
theorem d_X12_becomesNext_89 : decode cX12_becomesNext 89 = .ok (.iadd, 1) := by decide +kernel
theorem d_X12_becomesNext_90 : decode cX12_becomesNext 90 = .ok (.iload_n 3, 1) := by decide +kernel
theorem d_X12_becomesNext_91 : decode cX12_becomesNext 91 = .ok (.iadd, 1) := by decide +kernel
theorem d_X12_becomesNext_92 : decode cX12_becomesNext 92 = .ok (.aload_n 0, 1) := by decide +kernel
theorem d_X12_becomesNext_93 : decode cX12_becomesNext 93 = .ok (.getfield 34, 3) := by decide +kernel
theorem d_X12_becomesNext_96 : decode cX12_becomesNext 96 = .ok (.iload_n 3, 1) := by decide +kernel
theorem d_X12_becomesNext_97 : decode cX12_becomesNext 97 = .ok (.iaload, 1) := by decide +kernel
theorem d_X12_becomesNext_98 : decode cX12_becomesNext 98 = .ok (.iastore, 1) := by decide +kernel
theorem d_X12_becomesNext_99 : decode cX12_becomesNext 99 = .ok (.iinc 3 1, 3) := by decide +kernel
theorem d_X12_becomesNext_102 : decode cX12_becomesNext 102 = .ok (.goto (-29), 3) := by decide +kernel
theorem d_X12_becomesNext_105 : decode cX12_becomesNext 105 = .ok (.return_, 1) := by decide +kernel
theorem b_X12_becomesNext_0 {X : cX} {d : Nat} {μ : mM} {K : Option Value → mM → Prop} {r0 : Nat} {l1 : Int32} {l2 : Int32} (h : G X (Rm (d + 1)) mX12_becomesNext 2 [(0, .ref r0), (1, .int l1), (2, .int l2), (3, .int (nI 0))] [] μ 0 0 K) : G X (Rm (d + 1)) mX12_becomesNext 0 [(0, .ref r0), (1, .int l1), (2, .int l2)] [] μ 0 0 K := by
  refine G_iconst d_X12_becomesNext_0 ic_0 ?_
  refine G_istore_n (L' := [(3, .int (nI 0)), (0, .ref r0), (1, .int l1), (2, .int l2)]) d_X12_becomesNext_1 rfl (by decide) rfl ?_
  refine G_sub (L' := [(0, .ref r0), (1, .int l1), (2, .int l2), (3, .int (nI 0))]) [1, 2, 3, 0] rfl ?_
  exact h
theorem b_X12_becomesNext_2 {X : cX} {d : Nat} {μ : mM} {K : Option Value → mM → Prop} {r0 : Nat} {l1 : Int32} {l2 : Int32} {i3 : Nat} (h : (6 : Int32) ≤ (nI i3) → G X (Rm (d + 1)) mX12_becomesNext 73 [(0, .ref r0), (1, .int l1), (3, .int (nI 0))] [] μ 0 0 K) (hw12_r0 : WF12 μ r0) (hb : ¬ (6 : Int32) ≤ (nI i3) → i3 < 13) (h_2 : ¬ (6 : Int32) ≤ (nI i3) → G X (Rm (d + 1)) mX12_becomesNext 18 [(0, .ref r0), (1, .int l1), (2, .int l2), (3, .int (nI i3)), (4, .int (nI 0))] [] (wi μ (r0 + 9) i3 0) 0 0 K) : G X (Rm (d + 1)) mX12_becomesNext 2 [(0, .ref r0), (1, .int l1), (2, .int l2), (3, .int (nI i3))] [] μ 0 0 K := by
  refine G_iload_n d_X12_becomesNext_2 rfl 3 rfl ?_
  refine G_bipush d_X12_becomesNext_3 bp_6 ?_
  refine G_icmp_ge (tgt := 71) d_X12_becomesNext_5 rfl (fun c0 => ?_) (fun c0 => ?_)
  ·
    refine G_iconst d_X12_becomesNext_71 ic_0 ?_
    refine G_istore_n (L' := [(3, .int (nI 0)), (0, .ref r0), (1, .int l1), (2, .int l2)]) d_X12_becomesNext_72 rfl (by decide) rfl ?_
    refine G_sub (L' := [(0, .ref r0), (1, .int l1), (3, .int (nI 0))]) [1, 2, 0] rfl ?_
    exact (h c0)
  ·
    refine G_aload_n d_X12_becomesNext_8 rfl 0 rfl ?_
    refine G_getR (r := r0 + 9) 12 19 (w12_kd hw12_r0) (w12_f19 hw12_r0) cok12 (by decide) rfl fl_X12_34 d_X12_becomesNext_9 ?_
    refine G_iload_n d_X12_becomesNext_12 rfl 3 rfl ?_
    refine G_iconst d_X12_becomesNext_13 ic_0 ?_
    refine G_iast i3 (w12_k19 hw12_r0) rfl (hb c0) d_X12_becomesNext_14 ?_
    refine G_iconst d_X12_becomesNext_15 ic_0 ?_
    refine G_istore (L' := [(4, .int (nI 0)), (0, .ref r0), (1, .int l1), (2, .int l2), (3, .int (nI i3))]) d_X12_becomesNext_16 (by decide) rfl ?_
    refine G_sub (L' := [(0, .ref r0), (1, .int l1), (2, .int l2), (3, .int (nI i3)), (4, .int (nI 0))]) [1, 2, 3, 4, 0] rfl ?_
    exact (h_2 c0)
theorem b_X12_becomesNext_18 {X : cX} {d : Nat} {μ : mM} {K : Option Value → mM → Prop} {r0 : Nat} {l1 : Int32} {i2 : Nat} {i3 : Nat} {i4 : Nat} (hw12_r0 : WF12 μ r0) (h : (e_X12_nodes μ r0) ≤ (nI i4) → G X (Rm (d + 1)) mX12_becomesNext 2 [(0, .ref r0), (1, .int l1), (2, .int (nI i2)), (3, .int (nI (i3 + 1)))] [] μ 0 0 K) (hb : ¬ (e_X12_nodes μ r0) ≤ (nI i4) → i3 < 13) (hs : ¬ (e_X12_nodes μ r0) ≤ (nI i4) → ((6 + (6 * i2)) + i4) < 366) (hs_2 : ¬ (e_X12_nodes μ r0) ≤ (nI i4) → ((24 + (6 * i4)) + i3) < 366) (h_2 : ¬ (e_X12_nodes μ r0) ≤ (nI i4) → G X (Rm (d + 1)) mX12_becomesNext 18 [(0, .ref r0), (1, .int l1), (2, .int (nI i2)), (3, .int (nI i3)), (4, .int (nI (i4 + 1)))] [] (wi μ (r0 + 9) i3 (e_X12_or μ (iv μ (r0 + 9) i3) (e_X12_and μ (e_X12_atOf μ r0 i2 i4) (e_X12_nextOf μ r0 i4 i3)))) 0 0 K) : G X (Rm (d + 1)) mX12_becomesNext 18 [(0, .ref r0), (1, .int l1), (2, .int (nI i2)), (3, .int (nI i3)), (4, .int (nI i4))] [] μ 0 0 K := by
  refine G_iload d_X12_becomesNext_18 4 rfl ?_
  refine G_aload_n d_X12_becomesNext_20 rfl 0 rfl ?_
  refine G_callV (M' := mX12_nodes) (R' := (Rm d)) (S := [.int (nI i4)]) [] 12 (w12_kd hw12_r0) cok12 rfl ok_X12_nodes ml_X12_169 pn_X12_nodes (ru_Rm (by decide)) (Nat.le_of_ble_eq_true rfl) d_X12_becomesNext_21 (s_X12_nodes (μ := μ)  hw12_r0 ?_)
  show G X (Rm (d + 1)) mX12_becomesNext 24 [(0, .ref r0), (1, .int l1), (2, .int (nI i2)), (3, .int (nI i3)), (4, .int (nI i4))] [.int (e_X12_nodes μ r0), .int (nI i4)] μ 0 0 K
  refine G_icmp_ge (tgt := 65) d_X12_becomesNext_24 rfl (fun c0 => ?_) (fun c0 => ?_)
  ·
    refine G_iinc (L' := [(3, .int (nI (i3 + 1))), (0, .ref r0), (1, .int l1), (2, .int (nI i2)), (4, .int (nI i4))]) d_X12_becomesNext_65 3 rfl (inc1 i3) (by decide) rfl ?_
    refine G_goto (tgt := 2) d_X12_becomesNext_68 rfl ?_
    refine G_sub (L' := [(0, .ref r0), (1, .int l1), (2, .int (nI i2)), (3, .int (nI (i3 + 1)))]) [1, 2, 3, 0] rfl ?_
    exact (h c0)
  ·
    refine G_aload_n d_X12_becomesNext_27 rfl 0 rfl ?_
    refine G_getR (r := r0 + 9) 12 19 (w12_kd hw12_r0) (w12_f19 hw12_r0) cok12 (by decide) rfl fl_X12_34 d_X12_becomesNext_28 ?_
    refine G_iload_n d_X12_becomesNext_31 rfl 3 rfl ?_
    refine G_aload_n d_X12_becomesNext_32 rfl 0 rfl ?_
    refine G_getR (r := r0 + 9) 12 19 (w12_kd hw12_r0) (w12_f19 hw12_r0) cok12 (by decide) rfl fl_X12_34 d_X12_becomesNext_33 ?_
    refine G_iload_n d_X12_becomesNext_36 rfl 3 rfl ?_
    refine G_iald i3 (w12_k19 hw12_r0) rfl (hb c0) d_X12_becomesNext_37 ?_
    refine G_aload_n d_X12_becomesNext_38 rfl 0 rfl ?_
    refine G_iload_n d_X12_becomesNext_39 rfl 2 rfl ?_
    refine G_iload d_X12_becomesNext_40 4 rfl ?_
    refine G_callV (M' := mX12_atOf) (R' := (Rm d)) (S := [.int (iv μ (r0 + 9) i3), .int (nI i3), .ref (r0 + 9)]) [.int (nI i2), .int (nI i4)] 12 (w12_kd hw12_r0) cok12 rfl ok_X12_atOf ml_X12_178 pn_X12_atOf (ru_Rm (by decide)) (Nat.le_of_ble_eq_true rfl) d_X12_becomesNext_42 (s_X12_atOf (μ := μ) (i1 := i2) (i2 := i4) hw12_r0 (hs c0) ?_)
    show G X (Rm (d + 1)) mX12_becomesNext 45 [(0, .ref r0), (1, .int l1), (2, .int (nI i2)), (3, .int (nI i3)), (4, .int (nI i4))] [.int (e_X12_atOf μ r0 i2 i4), .int (iv μ (r0 + 9) i3), .int (nI i3), .ref (r0 + 9)] μ 0 0 K
    refine G_aload_n d_X12_becomesNext_45 rfl 0 rfl ?_
    refine G_iload d_X12_becomesNext_46 4 rfl ?_
    refine G_iload_n d_X12_becomesNext_48 rfl 3 rfl ?_
    refine G_callV (M' := mX12_nextOf) (R' := (Rm d)) (S := [.int (e_X12_atOf μ r0 i2 i4), .int (iv μ (r0 + 9) i3), .int (nI i3), .ref (r0 + 9)]) [.int (nI i4), .int (nI i3)] 12 (w12_kd hw12_r0) cok12 rfl ok_X12_nextOf ml_X12_204 pn_X12_nextOf (ru_Rm (by decide)) (Nat.le_of_ble_eq_true rfl) d_X12_becomesNext_49 (s_X12_nextOf (μ := μ) (i1 := i4) (i2 := i3) hw12_r0 (hs_2 c0) ?_)
    show G X (Rm (d + 1)) mX12_becomesNext 52 [(0, .ref r0), (1, .int l1), (2, .int (nI i2)), (3, .int (nI i3)), (4, .int (nI i4))] [.int (e_X12_nextOf μ r0 i4 i3), .int (e_X12_atOf μ r0 i2 i4), .int (iv μ (r0 + 9) i3), .int (nI i3), .ref (r0 + 9)] μ 0 0 K
    refine G_callS (M' := mX12_and) (R' := (Rm d)) (S := [.int (iv μ (r0 + 9) i3), .int (nI i3), .ref (r0 + 9)]) [.int (e_X12_atOf μ r0 i2 i4), .int (e_X12_nextOf μ r0 i4 i3)] ok_X12_and ml_X12_172 pn_X12_and (ru_Rm (by decide)) (Nat.le_of_ble_eq_true rfl) d_X12_becomesNext_52 (s_X12_and (μ := μ)   ?_)
    show G X (Rm (d + 1)) mX12_becomesNext 55 [(0, .ref r0), (1, .int l1), (2, .int (nI i2)), (3, .int (nI i3)), (4, .int (nI i4))] [.int (e_X12_and μ (e_X12_atOf μ r0 i2 i4) (e_X12_nextOf μ r0 i4 i3)), .int (iv μ (r0 + 9) i3), .int (nI i3), .ref (r0 + 9)] μ 0 0 K
    refine G_callS (M' := mX12_or) (R' := (Rm d)) (S := [.int (nI i3), .ref (r0 + 9)]) [.int (iv μ (r0 + 9) i3), .int (e_X12_and μ (e_X12_atOf μ r0 i2 i4) (e_X12_nextOf μ r0 i4 i3))] ok_X12_or ml_X12_175 pn_X12_or (ru_Rm (by decide)) (Nat.le_of_ble_eq_true rfl) d_X12_becomesNext_55 (s_X12_or (μ := μ)   ?_)
    show G X (Rm (d + 1)) mX12_becomesNext 58 [(0, .ref r0), (1, .int l1), (2, .int (nI i2)), (3, .int (nI i3)), (4, .int (nI i4))] [.int (e_X12_or μ (iv μ (r0 + 9) i3) (e_X12_and μ (e_X12_atOf μ r0 i2 i4) (e_X12_nextOf μ r0 i4 i3))), .int (nI i3), .ref (r0 + 9)] μ 0 0 K
    refine G_iast i3 (w12_k19 hw12_r0) rfl (hb c0) d_X12_becomesNext_58 ?_
    refine G_iinc (L' := [(4, .int (nI (i4 + 1))), (0, .ref r0), (1, .int l1), (2, .int (nI i2)), (3, .int (nI i3))]) d_X12_becomesNext_59 4 rfl (inc1 i4) (by decide) rfl ?_
    refine G_goto (tgt := 18) d_X12_becomesNext_62 rfl ?_
    refine G_sub (L' := [(0, .ref r0), (1, .int l1), (2, .int (nI i2)), (3, .int (nI i3)), (4, .int (nI (i4 + 1)))]) [1, 2, 3, 4, 0] rfl ?_
    exact (h_2 c0)
theorem b_X12_becomesNext_73 {X : cX} {d : Nat} {μ : mM} {K : Option Value → mM → Prop} {r0 : Nat} {i1 : Nat} {i3 : Nat} (hK : (6 : Int32) ≤ (nI i3) → K none μ) (hw12_r0 : WF12 μ r0) (hb : ¬ (6 : Int32) ≤ (nI i3) → i3 < 13) (hb_2 : ¬ (6 : Int32) ≤ (nI i3) → ((6 + (6 * i1)) + i3) < 366) (h : ¬ (6 : Int32) ≤ (nI i3) → G X (Rm (d + 1)) mX12_becomesNext 73 [(0, .ref r0), (1, .int (nI i1)), (3, .int (nI (i3 + 1)))] [] (wi μ (r0 + 1) ((6 + (6 * i1)) + i3) (iv μ (r0 + 9) i3)) 0 0 K) : G X (Rm (d + 1)) mX12_becomesNext 73 [(0, .ref r0), (1, .int (nI i1)), (3, .int (nI i3))] [] μ 0 0 K := by
  refine G_iload_n d_X12_becomesNext_73 rfl 2 rfl ?_
  refine G_bipush d_X12_becomesNext_74 bp_6 ?_
  refine G_icmp_ge (tgt := 105) d_X12_becomesNext_76 rfl (fun c0 => ?_) (fun c0 => ?_)
  ·
    exact G_vret rfl rfl rfl d_X12_becomesNext_105 (hK c0)
  ·
    refine G_aload_n d_X12_becomesNext_79 rfl 0 rfl ?_
    refine G_getR (r := r0 + 1) 12 0 (w12_kd hw12_r0) (w12_f0 hw12_r0) cok12 (by decide) rfl fl_X12_7 d_X12_becomesNext_80 ?_
    refine G_bipush d_X12_becomesNext_83 bp_6 ?_
    refine G_bipush d_X12_becomesNext_85 bp_6 ?_
    refine G_iload_n d_X12_becomesNext_87 rfl 1 rfl ?_
    refine G_imul d_X12_becomesNext_88 ?_
    refine G_iadd d_X12_becomesNext_89 ?_
    refine G_iload_n d_X12_becomesNext_90 rfl 2 rfl ?_
    refine G_iadd d_X12_becomesNext_91 ?_
    refine G_aload_n d_X12_becomesNext_92 rfl 0 rfl ?_
    refine G_getR (r := r0 + 9) 12 19 (w12_kd hw12_r0) (w12_f19 hw12_r0) cok12 (by decide) rfl fl_X12_34 d_X12_becomesNext_93 ?_
    refine G_iload_n d_X12_becomesNext_96 rfl 2 rfl ?_
    refine G_iald i3 (w12_k19 hw12_r0) rfl (hb c0) d_X12_becomesNext_97 ?_
    refine G_iast ((6 + (6 * i1)) + i3) (w12_k0 hw12_r0) (nadd (nadd rfl (nmul rfl rfl)) rfl) (hb_2 c0) d_X12_becomesNext_98 ?_
    refine G_iinc (L' := [(3, .int (nI (i3 + 1))), (0, .ref r0), (1, .int (nI i1))]) d_X12_becomesNext_99 2 rfl (inc1 i3) (by decide) rfl ?_
    refine G_goto (tgt := 73) d_X12_becomesNext_102 rfl ?_
    refine G_sub (L' := [(0, .ref r0), (1, .int (nI i1)), (3, .int (nI (i3 + 1)))]) [1, 2, 0] rfl ?_
    exact (h c0)
theorem d_X12_isAtAlone_0 : decode cX12_isAtAlone 0 = .ok (.iconst 0, 1) := by decide +kernel
theorem d_X12_isAtAlone_1 : decode cX12_isAtAlone 1 = .ok (.istore_n 3, 1) := by decide +kernel
theorem d_X12_isAtAlone_2 : decode cX12_isAtAlone 2 = .ok (.iload_n 3, 1) := by decide +kernel
theorem d_X12_isAtAlone_3 : decode cX12_isAtAlone 3 = .ok (.bipush 6, 2) := by decide +kernel
theorem d_X12_isAtAlone_5 : decode cX12_isAtAlone 5 = .ok (.if_icmp .ge 33, 3) := by decide +kernel
theorem d_X12_isAtAlone_8 : decode cX12_isAtAlone 8 = .ok (.aload_n 0, 1) := by decide +kernel
theorem d_X12_isAtAlone_9 : decode cX12_isAtAlone 9 = .ok (.getfield 7, 3) := by decide +kernel
theorem d_X12_isAtAlone_12 : decode cX12_isAtAlone 12 = .ok (.bipush 6, 2) := by decide +kernel
theorem d_X12_isAtAlone_14 : decode cX12_isAtAlone 14 = .ok (.bipush 6, 2) := by decide +kernel
theorem d_X12_isAtAlone_16 : decode cX12_isAtAlone 16 = .ok (.iload_n 1, 1) := by decide +kernel
theorem d_X12_isAtAlone_17 : decode cX12_isAtAlone 17 = .ok (.imul, 1) := by decide +kernel
theorem d_X12_isAtAlone_18 : decode cX12_isAtAlone 18 = .ok (.iadd, 1) := by decide +kernel
theorem d_X12_isAtAlone_19 : decode cX12_isAtAlone 19 = .ok (.iload_n 3, 1) := by decide +kernel
theorem d_X12_isAtAlone_20 : decode cX12_isAtAlone 20 = .ok (.iadd, 1) := by decide +kernel
theorem d_X12_isAtAlone_21 : decode cX12_isAtAlone 21 = .ok (.iload_n 3, 1) := by decide +kernel
theorem d_X12_isAtAlone_22 : decode cX12_isAtAlone 22 = .ok (.iload_n 2, 1) := by decide +kernel
theorem d_X12_isAtAlone_23 : decode cX12_isAtAlone 23 = .ok (.if_icmp .ne 7, 3) := by decide +kernel
theorem d_X12_isAtAlone_26 : decode cX12_isAtAlone 26 = .ok (.iconst 2, 1) := by decide +kernel
theorem d_X12_isAtAlone_27 : decode cX12_isAtAlone 27 = .ok (.goto 4, 3) := by decide +kernel
theorem d_X12_isAtAlone_30 : decode cX12_isAtAlone 30 = .ok (.iconst 0, 1) := by decide +kernel
theorem d_X12_isAtAlone_31 : decode cX12_isAtAlone 31 = .ok (.iastore, 1) := by decide +kernel
theorem d_X12_isAtAlone_32 : decode cX12_isAtAlone 32 = .ok (.iinc 3 1, 3) := by decide +kernel
theorem d_X12_isAtAlone_35 : decode cX12_isAtAlone 35 = .ok (.goto (-33), 3) := by decide +kernel
theorem d_X12_isAtAlone_38 : decode cX12_isAtAlone 38 = .ok (.return_, 1) := by decide +kernel
theorem b_X12_isAtAlone_0 {X : cX} {d : Nat} {μ : mM} {K : Option Value → mM → Prop} {r0 : Nat} {l1 : Int32} {l2 : Int32} (h : G X (Rm d) mX12_isAtAlone 2 [(0, .ref r0), (1, .int l1), (2, .int l2), (3, .int (nI 0))] [] μ 0 0 K) : G X (Rm d) mX12_isAtAlone 0 [(0, .ref r0), (1, .int l1), (2, .int l2)] [] μ 0 0 K := by
  refine G_iconst d_X12_isAtAlone_0 ic_0 ?_
  refine G_istore_n (L' := [(3, .int (nI 0)), (0, .ref r0), (1, .int l1), (2, .int l2)]) d_X12_isAtAlone_1 rfl (by decide) rfl ?_
  refine G_sub (L' := [(0, .ref r0), (1, .int l1), (2, .int l2), (3, .int (nI 0))]) [1, 2, 3, 0] rfl ?_
  exact h
theorem b_X12_isAtAlone_2 {X : cX} {d : Nat} {μ : mM} {K : Option Value → mM → Prop} {r0 : Nat} {l1 : Int32} {l2 : Int32} {l3 : Int32} (hK : (6 : Int32) ≤ l3 → K none μ) (hw12_r0 : WF12 μ r0) (h : ¬ (6 : Int32) ≤ l3 → ¬ l3 = l2 → G X (Rm d) mX12_isAtAlone 31 [(0, .ref r0), (1, .int l1), (2, .int l2), (3, .int l3)] [.int 0, .int (((6 : Int32) + ((6 : Int32) * l1)) + l3), .ref (r0 + 1)] μ 0 0 K) (h_2 : ¬ (6 : Int32) ≤ l3 → l3 = l2 → G X (Rm d) mX12_isAtAlone 31 [(0, .ref r0), (1, .int l1), (2, .int l2), (3, .int l3)] [.int 2, .int (((6 : Int32) + ((6 : Int32) * l1)) + l3), .ref (r0 + 1)] μ 0 0 K) : G X (Rm d) mX12_isAtAlone 2 [(0, .ref r0), (1, .int l1), (2, .int l2), (3, .int l3)] [] μ 0 0 K := by
  refine G_iload_n d_X12_isAtAlone_2 rfl 3 rfl ?_
  refine G_bipush d_X12_isAtAlone_3 bp_6 ?_
  refine G_icmp_ge (tgt := 38) d_X12_isAtAlone_5 rfl (fun c0 => ?_) (fun c0 => ?_)
  ·
    exact G_vret rfl rfl rfl d_X12_isAtAlone_38 (hK c0)
  ·
    refine G_aload_n d_X12_isAtAlone_8 rfl 0 rfl ?_
    refine G_getR (r := r0 + 1) 12 0 (w12_kd hw12_r0) (w12_f0 hw12_r0) cok12 (by decide) rfl fl_X12_7 d_X12_isAtAlone_9 ?_
    refine G_bipush d_X12_isAtAlone_12 bp_6 ?_
    refine G_bipush d_X12_isAtAlone_14 bp_6 ?_
    refine G_iload_n d_X12_isAtAlone_16 rfl 1 rfl ?_
    refine G_imul d_X12_isAtAlone_17 ?_
    refine G_iadd d_X12_isAtAlone_18 ?_
    refine G_iload_n d_X12_isAtAlone_19 rfl 3 rfl ?_
    refine G_iadd d_X12_isAtAlone_20 ?_
    refine G_iload_n d_X12_isAtAlone_21 rfl 3 rfl ?_
    refine G_iload_n d_X12_isAtAlone_22 rfl 2 rfl ?_
    refine G_icmp_ne (tgt := 30) d_X12_isAtAlone_23 rfl (fun c1 => ?_) (fun c1 => ?_)
    ·
      refine G_iconst d_X12_isAtAlone_30 ic_0 ?_
      exact (h c0 c1)
    ·
      refine G_iconst d_X12_isAtAlone_26 ic_2 ?_
      refine G_goto (tgt := 31) d_X12_isAtAlone_27 rfl ?_
      exact (h_2 c0 c1)
theorem b_X12_isAtAlone_31 {X : cX} {d : Nat} {μ : mM} {K : Option Value → mM → Prop} {r0 : Nat} {l1 : Int32} {l2 : Int32} {i3 : Nat} {q0 : Nat} {v1 : Int32} {v2 : Int32} {n0 : Nat} {j0 : Nat} (hk_q0 : kd μ q0 = (1, n0)) (hi_j0 : v1 = nI j0) (hb : j0 < n0) (h : G X (Rm d) mX12_isAtAlone 2 [(0, .ref r0), (1, .int l1), (2, .int l2), (3, .int (nI (i3 + 1)))] [] (wi μ q0 j0 v2) 0 0 K) : G X (Rm d) mX12_isAtAlone 31 [(0, .ref r0), (1, .int l1), (2, .int l2), (3, .int (nI i3))] [.int v2, .int v1, .ref q0] μ 0 0 K := by
  refine G_iast j0 hk_q0 hi_j0 hb d_X12_isAtAlone_31 ?_
  refine G_iinc (L' := [(3, .int (nI (i3 + 1))), (0, .ref r0), (1, .int l1), (2, .int l2)]) d_X12_isAtAlone_32 3 rfl (inc1 i3) (by decide) rfl ?_
  refine G_goto (tgt := 2) d_X12_isAtAlone_35 rfl ?_
  refine G_sub (L' := [(0, .ref r0), (1, .int l1), (2, .int l2), (3, .int (nI (i3 + 1)))]) [1, 2, 3, 0] rfl ?_
  exact h
theorem d_X12_does_0 : decode cX12_does 0 = .ok (.iload_n 1, 1) := by decide +kernel
theorem d_X12_does_1 : decode cX12_does 1 = .ok (.iconst 1, 1) := by decide +kernel
theorem d_X12_does_2 : decode cX12_does 2 = .ok (.if_icmp .eq 13, 3) := by decide +kernel
theorem d_X12_does_5 : decode cX12_does 5 = .ok (.iload_n 1, 1) := by decide +kernel
theorem d_X12_does_6 : decode cX12_does 6 = .ok (.iconst 2, 1) := by decide +kernel
theorem d_X12_does_7 : decode cX12_does 7 = .ok (.if_icmp .eq 8, 3) := by decide +kernel
theorem d_X12_does_10 : decode cX12_does 10 = .ok (.iload_n 1, 1) := by decide +kernel
theorem d_X12_does_11 : decode cX12_does 11 = .ok (.iconst 4, 1) := by decide +kernel
theorem d_X12_does_12 : decode cX12_does 12 = .ok (.if_icmp .ne 7, 3) := by decide +kernel
theorem d_X12_does_15 : decode cX12_does 15 = .ok (.iconst 1, 1) := by decide +kernel
theorem d_X12_does_16 : decode cX12_does 16 = .ok (.goto 4, 3) := by decide +kernel
theorem d_X12_does_19 : decode cX12_does 19 = .ok (.iconst 0, 1) := by decide +kernel
theorem d_X12_does_20 : decode cX12_does 20 = .ok (.istore 4, 2) := by decide +kernel
theorem d_X12_does_22 : decode cX12_does 22 = .ok (.iload_n 1, 1) := by decide +kernel
theorem d_X12_does_23 : decode cX12_does 23 = .ok (.i2l, 1) := by decide +kernel
theorem d_X12_does_24 : decode cX12_does 24 = .ok (.lconst 0, 1) := by decide +kernel
theorem d_X12_does_25 : decode cX12_does 25 = .ok (.ldc2_w 248, 3) := by decide +kernel
theorem d_X12_does_28 : decode cX12_does 28 = .ok (.invokestatic 61, 3) := by decide +kernel
theorem d_X12_does_31 : decode cX12_does 31 = .ok (.ifCond .eq 22, 3) := by decide +kernel
theorem d_X12_does_34 : decode cX12_does 34 = .ok (.iload_n 2, 1) := by decide +kernel
theorem d_X12_does_35 : decode cX12_does 35 = .ok (.invokestatic 207, 3) := by decide +kernel
theorem d_X12_does_38 : decode cX12_does 38 = .ok (.ifCond .eq 15, 3) := by decide +kernel
theorem d_X12_does_41 : decode cX12_does 41 = .ok (.iload 4, 2) := by decide +kernel
theorem d_X12_does_43 : decode cX12_does 43 = .ok (.ifCond .eq 12, 3) := by decide +kernel
theorem d_X12_does_46 : decode cX12_does 46 = .ok (.iload_n 3, 1) := by decide +kernel
theorem d_X12_does_47 : decode cX12_does 47 = .ok (.invokestatic 207, 3) := by decide +kernel
theorem d_X12_does_50 : decode cX12_does 50 = .ok (.ifCond .ne 5, 3) := by decide +kernel
theorem d_X12_does_53 : decode cX12_does 53 = .ok (.iconst (-1), 1) := by decide +kernel
theorem d_X12_does_54 : decode cX12_does 54 = .ok (.ireturn, 1) := by decide +kernel
theorem d_X12_does_55 : decode cX12_does 55 = .ok (.iload_n 1, 1) := by decide +kernel
theorem d_X12_does_56 : decode cX12_does 56 = .ok (.iconst 5, 1) := by decide +kernel
theorem d_X12_does_57 : decode cX12_does 57 = .ok (.if_icmp .ne 15, 3) := by decide +kernel
theorem d_X12_does_60 : decode cX12_does 60 = .ok (.aload_n 0, 1) := by decide +kernel
theorem d_X12_does_61 : decode cX12_does 61 = .ok (.invokevirtual 169, 3) := by decide +kernel
theorem d_X12_does_64 : decode cX12_does 64 = .ok (.bipush 6, 2) := by decide +kernel
theorem d_X12_does_66 : decode cX12_does 66 = .ok (.if_icmp .ne 6, 3) := by decide +kernel
theorem d_X12_does_69 : decode cX12_does 69 = .ok (.bipush (-3), 2) := by decide +kernel
theorem d_X12_does_71 : decode cX12_does 71 = .ok (.ireturn, 1) := by decide +kernel
theorem d_X12_does_72 : decode cX12_does 72 = .ok (.iload_n 1, 1) := by decide +kernel
theorem d_X12_does_73 : decode cX12_does 73 = .ok (.iconst 2, 1) := by decide +kernel
theorem d_X12_does_74 : decode cX12_does 74 = .ok (.if_icmp .ne 11, 3) := by decide +kernel
theorem d_X12_does_77 : decode cX12_does 77 = .ok (.aload_n 0, 1) := by decide +kernel
theorem d_X12_does_78 : decode cX12_does 78 = .ok (.iload_n 3, 1) := by decide +kernel
theorem d_X12_does_79 : decode cX12_does 79 = .ok (.invokevirtual 210, 3) := by decide +kernel
theorem d_X12_does_82 : decode cX12_does 82 = .ok (.goto 22, 3) := by decide +kernel
theorem d_X12_does_85 : decode cX12_does 85 = .ok (.iload_n 1, 1) := by decide +kernel
theorem d_X12_does_86 : decode cX12_does 86 = .ok (.iconst 3, 1) := by decide +kernel
theorem d_X12_does_87 : decode cX12_does 87 = .ok (.if_icmp .eq 8, 3) := by decide +kernel
theorem d_X12_does_90 : decode cX12_does 90 = .ok (.iload_n 1, 1) := by decide +kernel
theorem d_X12_does_91 : decode cX12_does 91 = .ok (.iconst 4, 1) := by decide +kernel
theorem d_X12_does_92 : decode cX12_does 92 = .ok (.if_icmp .ne 11, 3) := by decide +kernel
theorem d_X12_does_95 : decode cX12_does 95 = .ok (.aload_n 0, 1) := by decide +kernel
theorem d_X12_does_96 : decode cX12_does 96 = .ok (.iload_n 2, 1) := by decide +kernel
theorem d_X12_does_97 : decode cX12_does 97 = .ok (.invokevirtual 210, 3) := by decide +kernel
theorem d_X12_does_100 : decode cX12_does 100 = .ok (.goto 4, 3) := by decide +kernel
theorem d_X12_does_103 : decode cX12_does 103 = .ok (.iconst 2, 1) := by decide +kernel
theorem d_X12_does_104 : decode cX12_does 104 = .ok (.istore 5, 2) := by decide +kernel
theorem d_X12_does_106 : decode cX12_does 106 = .ok (.iload_n 1, 1) := by decide +kernel
theorem d_X12_does_107 : decode cX12_does 107 = .ok (.tableswitch 113 0 4 #[33, 43, 84, 93, 103], 33) := by decide +kernel
theorem d_X12_does_140 : decode cX12_does 140 = .ok (.aload_n 0, 1) := by decide +kernel
theorem d_X12_does_141 : decode cX12_does 141 = .ok (.iload_n 2, 1) := by decide +kernel
theorem d_X12_does_142 : decode cX12_does 142 = .ok (.bipush (-4), 2) := by decide +kernel
theorem d_X12_does_144 : decode cX12_does 144 = .ok (.invokevirtual 250, 3) := by decide +kernel
theorem d_X12_does_147 : decode cX12_does 147 = .ok (.goto 89, 3) := by decide +kernel
theorem d_X12_does_150 : decode cX12_does 150 = .ok (.iconst 0, 1) := by decide +kernel
theorem d_X12_does_151 : decode cX12_does 151 = .ok (.istore 6, 2) := by decide +kernel
theorem d_X12_does_153 : decode cX12_does 153 = .ok (.iload 6, 2) := by decide +kernel
theorem d_X12_does_155 : decode cX12_does 155 = .ok (.bipush 6, 2) := by decide +kernel
theorem d_X12_does_157 : decode cX12_does 157 = .ok (.if_icmp .ge 31, 3) := by decide +kernel
theorem d_X12_does_160 : decode cX12_does 160 = .ok (.aload_n 0, 1) := by decide +kernel
theorem d_X12_does_161 : decode cX12_does 161 = .ok (.getfield 7, 3) := by decide +kernel
theorem d_X12_does_164 : decode cX12_does 164 = .ok (.bipush 6, 2) := by decide +kernel
theorem d_X12_does_166 : decode cX12_does 166 = .ok (.bipush 6, 2) := by decide +kernel
theorem d_X12_does_168 : decode cX12_does 168 = .ok (.iload_n 2, 1) := by decide +kernel
theorem d_X12_does_169 : decode cX12_does 169 = .ok (.imul, 1) := by decide +kernel
theorem d_X12_does_170 : decode cX12_does 170 = .ok (.iadd, 1) := by decide +kernel
theorem d_X12_does_171 : decode cX12_does 171 = .ok (.iload 6, 2) := by decide +kernel
theorem d_X12_does_173 : decode cX12_does 173 = .ok (.iadd, 1) := by decide +kernel
theorem d_X12_does_174 : decode cX12_does 174 = .ok (.aload_n 0, 1) := by decide +kernel
theorem d_X12_does_175 : decode cX12_does 175 = .ok (.iload_n 3, 1) := by decide +kernel
theorem d_X12_does_176 : decode cX12_does 176 = .ok (.iload 6, 2) := by decide +kernel
theorem d_X12_does_178 : decode cX12_does 178 = .ok (.invokevirtual 178, 3) := by decide +kernel
theorem d_X12_does_181 : decode cX12_does 181 = .ok (.iastore, 1) := by decide +kernel
theorem d_X12_does_182 : decode cX12_does 182 = .ok (.iinc 6 1, 3) := by decide +kernel
theorem d_X12_does_185 : decode cX12_does 185 = .ok (.goto (-32), 3) := by decide +kernel
theorem d_X12_does_188 : decode cX12_does 188 = .ok (.goto 48, 3) := by decide +kernel
theorem d_X12_does_191 : decode cX12_does 191 = .ok (.aload_n 0, 1) := by decide +kernel
theorem d_X12_does_192 : decode cX12_does 192 = .ok (.iload_n 2, 1) := by decide +kernel
theorem d_X12_does_193 : decode cX12_does 193 = .ok (.iload_n 3, 1) := by decide +kernel
theorem d_X12_does_194 : decode cX12_does 194 = .ok (.invokevirtual 253, 3) := by decide +kernel
theorem d_X12_does_197 : decode cX12_does 197 = .ok (.goto 39, 3) := by decide +kernel
theorem d_X12_does_200 : decode cX12_does 200 = .ok (.aload_n 0, 1) := by decide +kernel
theorem d_X12_does_201 : decode cX12_does 201 = .ok (.iload_n 2, 1) := by decide +kernel
theorem d_X12_does_202 : decode cX12_does 202 = .ok (.iconst 0, 1) := by decide +kernel
theorem d_X12_does_203 : decode cX12_does 203 = .ok (.iconst 0, 1) := by decide +kernel
theorem d_X12_does_204 : decode cX12_does 204 = .ok (.invokevirtual 256, 3) := by decide +kernel
theorem d_X12_does_207 : decode cX12_does 207 = .ok (.goto 29, 3) := by decide +kernel
theorem d_X12_does_210 : decode cX12_does 210 = .ok (.aload_n 0, 1) := by decide +kernel
theorem d_X12_does_211 : decode cX12_does 211 = .ok (.iload_n 2, 1) := by decide +kernel
theorem d_X12_does_212 : decode cX12_does 212 = .ok (.iload_n 3, 1) := by decide +kernel
theorem d_X12_does_213 : decode cX12_does 213 = .ok (.iconst 1, 1) := by decide +kernel
theorem d_X12_does_214 : decode cX12_does 214 = .ok (.invokevirtual 256, 3) := by decide +kernel
theorem d_X12_does_217 : decode cX12_does 217 = .ok (.goto 19, 3) := by decide +kernel
theorem d_X12_does_220 : decode cX12_does 220 = .ok (.aload_n 0, 1) := by decide +kernel
theorem d_X12_does_221 : decode cX12_does 221 = .ok (.iconst 0, 1) := by decide +kernel
theorem d_X12_does_222 : decode cX12_does 222 = .ok (.invokevirtual 238, 3) := by decide +kernel
theorem d_X12_does_225 : decode cX12_does 225 = .ok (.aload_n 0, 1) := by decide +kernel
theorem d_X12_does_226 : decode cX12_does 226 = .ok (.iload_n 2, 1) := by decide +kernel
theorem d_X12_does_227 : decode cX12_does 227 = .ok (.aload_n 0, 1) := by decide +kernel
theorem d_X12_does_228 : decode cX12_does 228 = .ok (.invokevirtual 169, 3) := by decide +kernel
theorem d_X12_does_231 : decode cX12_does 231 = .ok (.iconst 1, 1) := by decide +kernel
theorem d_X12_does_232 : decode cX12_does 232 = .ok (.isub, 1) := by decide +kernel
theorem d_X12_does_233 : decode cX12_does 233 = .ok (.invokevirtual 250, 3) := by decide +kernel
theorem d_X12_does_236 : decode cX12_does 236 = .ok (.iload 5, 2) := by decide +kernel
theorem d_X12_does_238 : decode cX12_does 238 = .ok (.ireturn, 1) := by decide +kernel
theorem b_X12_does_0 {X : cX} {d : Nat} {μ : mM} {K : Option Value → mM → Prop} {r0 : Nat} {l1 : Int32} {l2 : Int32} {l3 : Int32} (h : l1 = (1 : Int32) → G X (Rm (d + 2)) mX12_does 15 [(0, .ref r0), (1, .int l1), (2, .int l2), (3, .int l3)] [] μ 0 0 K) (h_2 : ¬ l1 = (1 : Int32) → l1 = (2 : Int32) → G X (Rm (d + 2)) mX12_does 15 [(0, .ref r0), (1, .int l1), (2, .int l2), (3, .int l3)] [] μ 0 0 K) (h_3 : ¬ l1 = (1 : Int32) → ¬ l1 = (2 : Int32) → ¬ l1 = (4 : Int32) → G X (Rm (d + 2)) mX12_does 20 [(0, .ref r0), (1, .int l1), (2, .int l2), (3, .int l3)] [.int 0] μ 0 0 K) (h_4 : ¬ l1 = (1 : Int32) → ¬ l1 = (2 : Int32) → l1 = (4 : Int32) → G X (Rm (d + 2)) mX12_does 15 [(0, .ref r0), (1, .int l1), (2, .int l2), (3, .int l3)] [] μ 0 0 K) : G X (Rm (d + 2)) mX12_does 0 [(0, .ref r0), (1, .int l1), (2, .int l2), (3, .int l3)] [] μ 0 0 K := by
  refine G_iload_n d_X12_does_0 rfl 1 rfl ?_
  refine G_iconst d_X12_does_1 ic_1 ?_
  refine G_icmp_eq (tgt := 15) d_X12_does_2 rfl (fun c0 => ?_) (fun c0 => ?_)
  ·
    exact (h c0)
  ·
    refine G_iload_n d_X12_does_5 rfl 1 rfl ?_
    refine G_iconst d_X12_does_6 ic_2 ?_
    refine G_icmp_eq (tgt := 15) d_X12_does_7 rfl (fun c1 => ?_) (fun c1 => ?_)
    ·
      exact (h_2 c0 c1)
    ·
      refine G_iload_n d_X12_does_10 rfl 1 rfl ?_
      refine G_iconst d_X12_does_11 ic_4 ?_
      refine G_icmp_ne (tgt := 19) d_X12_does_12 rfl (fun c2 => ?_) (fun c2 => ?_)
      ·
        refine G_iconst d_X12_does_19 ic_0 ?_
        exact (h_3 c0 c1 c2)
      ·
        exact (h_4 c0 c1 c2)
theorem b_X12_does_15 {X : cX} {d : Nat} {μ : mM} {K : Option Value → mM → Prop} {r0 : Nat} {l1 : Int32} {l2 : Int32} {l3 : Int32} (h : G X (Rm (d + 2)) mX12_does 20 [(0, .ref r0), (1, .int l1), (2, .int l2), (3, .int l3)] [.int 1] μ 0 0 K) : G X (Rm (d + 2)) mX12_does 15 [(0, .ref r0), (1, .int l1), (2, .int l2), (3, .int l3)] [] μ 0 0 K := by
  refine G_iconst d_X12_does_15 ic_1 ?_
  refine G_goto (tgt := 20) d_X12_does_16 rfl ?_
  exact h
theorem b_X12_does_20 {X : cX} {d : Nat} {μ : mM} {K : Option Value → mM → Prop} {r0 : Nat} {l1 : Int32} {l2 : Int32} {l3 : Int32} {v0 : Int32} (hK : (e_X12_in μ l1.toInt64 0 5) = 0 → K (some (.int (-1))) μ) (hs : ¬ (e_X12_in μ l1.toInt64 0 5) = 0 → e_X12_in μ l2.toInt64 0 2 = 0 ∨ e_X12_in μ l2.toInt64 0 2 = 1) (hK_2 : ¬ (e_X12_in μ l1.toInt64 0 5) = 0 → (e_X12_isVariable μ l2) = 0 → K (some (.int (-1))) μ) (h : ¬ (e_X12_in μ l1.toInt64 0 5) = 0 → ¬ (e_X12_isVariable μ l2) = 0 → v0 = 0 → G X (Rm (d + 2)) mX12_does 55 [(0, .ref r0), (1, .int l1), (2, .int l2), (3, .int l3)] [] μ 0 0 K) (hs_2 : ¬ (e_X12_in μ l1.toInt64 0 5) = 0 → ¬ (e_X12_isVariable μ l2) = 0 → ¬ v0 = 0 → e_X12_in μ l3.toInt64 0 2 = 0 ∨ e_X12_in μ l3.toInt64 0 2 = 1) (h_2 : ¬ (e_X12_in μ l1.toInt64 0 5) = 0 → ¬ (e_X12_isVariable μ l2) = 0 → ¬ v0 = 0 → ¬ (e_X12_isVariable μ l3) = 0 → G X (Rm (d + 2)) mX12_does 55 [(0, .ref r0), (1, .int l1), (2, .int l2), (3, .int l3)] [] μ 0 0 K) (hK_3 : ¬ (e_X12_in μ l1.toInt64 0 5) = 0 → ¬ (e_X12_isVariable μ l2) = 0 → ¬ v0 = 0 → (e_X12_isVariable μ l3) = 0 → K (some (.int (-1))) μ) : G X (Rm (d + 2)) mX12_does 20 [(0, .ref r0), (1, .int l1), (2, .int l2), (3, .int l3)] [.int v0] μ 0 0 K := by
  refine G_istore (L' := [(4, .int v0), (0, .ref r0), (1, .int l1), (2, .int l2), (3, .int l3)]) d_X12_does_20 (by decide) rfl ?_
  refine G_iload_n d_X12_does_22 rfl 2 rfl ?_
  refine G_i2l (v := l1.toInt64) d_X12_does_23 rfl ?_
  refine G_lconst (v := 0) d_X12_does_24 rfl ?_
  refine G_ldc2 kl_X12_248 d_X12_does_25 ?_
  refine G_callS (M' := mX12_in) (R' := (Rm (d + 1))) (S := []) [.long l1.toInt64, .long 0, .long 5] ok_X12_in ml_X12_61 pn_X12_in (ru_Rm (by decide)) (Nat.le_of_ble_eq_true rfl) d_X12_does_28 (s_X12_in (μ := μ)   ?_)
  show G X (Rm (d + 2)) mX12_does 31 [(4, .int v0), (0, .ref r0), (1, .int l1), (2, .int l2), (3, .int l3)] [.int (e_X12_in μ l1.toInt64 0 5)] μ 0 0 K
  refine G_if_eq (tgt := 53) d_X12_does_31 rfl (fun c0 => ?_) (fun c0 => ?_)
  ·
    refine G_iconst d_X12_does_53 ic_m1 ?_
    exact G_iret rfl rfl rfl d_X12_does_54 (hK c0)
  ·
    refine G_iload_n d_X12_does_34 rfl 3 rfl ?_
    refine G_callS (M' := mX12_isVariable) (R' := (Rm (d + 1))) (S := []) [.int l2] ok_X12_isVariable ml_X12_207 pn_X12_isVariable (ru_Rm (by decide)) (Nat.le_of_ble_eq_true rfl) d_X12_does_35 (s_X12_isVariable (μ := μ)  (hs c0) ?_)
    show G X (Rm (d + 2)) mX12_does 38 [(4, .int v0), (0, .ref r0), (1, .int l1), (2, .int l2), (3, .int l3)] [.int (e_X12_isVariable μ l2)] μ 0 0 K
    refine G_if_eq (tgt := 53) d_X12_does_38 rfl (fun c1 => ?_) (fun c1 => ?_)
    ·
      refine G_iconst d_X12_does_53 ic_m1 ?_
      exact G_iret rfl rfl rfl d_X12_does_54 (hK_2 c0 c1)
    ·
      refine G_iload d_X12_does_41 0 rfl ?_
      refine G_if_eq (tgt := 55) d_X12_does_43 rfl (fun c2 => ?_) (fun c2 => ?_)
      ·
        refine G_sub (L' := [(0, .ref r0), (1, .int l1), (2, .int l2), (3, .int l3)]) [1, 2, 3, 4] rfl ?_
        exact (h c0 c1 c2)
      ·
        refine G_iload_n d_X12_does_46 rfl 4 rfl ?_
        refine G_callS (M' := mX12_isVariable) (R' := (Rm (d + 1))) (S := []) [.int l3] ok_X12_isVariable ml_X12_207 pn_X12_isVariable (ru_Rm (by decide)) (Nat.le_of_ble_eq_true rfl) d_X12_does_47 (s_X12_isVariable (μ := μ)  (hs_2 c0 c1 c2) ?_)
        show G X (Rm (d + 2)) mX12_does 50 [(4, .int v0), (0, .ref r0), (1, .int l1), (2, .int l2), (3, .int l3)] [.int (e_X12_isVariable μ l3)] μ 0 0 K
        refine G_if_ne (tgt := 55) d_X12_does_50 rfl (fun c3 => ?_) (fun c3 => ?_)
        ·
          refine G_sub (L' := [(0, .ref r0), (1, .int l1), (2, .int l2), (3, .int l3)]) [1, 2, 3, 4] rfl ?_
          exact (h_2 c0 c1 c2 c3)
        ·
          refine G_iconst d_X12_does_53 ic_m1 ?_
          exact G_iret rfl rfl rfl d_X12_does_54 (hK_3 c0 c1 c2 c3)
theorem b_X12_does_55 {X : cX} {d : Nat} {μ : mM} {K : Option Value → mM → Prop} {r0 : Nat} {l1 : Int32} {l2 : Int32} {l3 : Int32} (h : ¬ l1 = (5 : Int32) → G X (Rm (d + 2)) mX12_does 72 [(0, .ref r0), (1, .int l1), (2, .int l2), (3, .int l3)] [] μ 0 0 K) (hw12_r0 : WF12 μ r0) (h_2 : l1 = (5 : Int32) → ¬ (e_X12_nodes μ r0) = (6 : Int32) → G X (Rm (d + 2)) mX12_does 72 [(0, .ref r0), (1, .int l1), (2, .int l2), (3, .int l3)] [] μ 0 0 K) (hK : l1 = (5 : Int32) → (e_X12_nodes μ r0) = (6 : Int32) → K (some (.int (-3))) μ) : G X (Rm (d + 2)) mX12_does 55 [(0, .ref r0), (1, .int l1), (2, .int l2), (3, .int l3)] [] μ 0 0 K := by
  refine G_iload_n d_X12_does_55 rfl 1 rfl ?_
  refine G_iconst d_X12_does_56 ic_5 ?_
  refine G_icmp_ne (tgt := 72) d_X12_does_57 rfl (fun c0 => ?_) (fun c0 => ?_)
  ·
    exact (h c0)
  ·
    refine G_aload_n d_X12_does_60 rfl 0 rfl ?_
    refine G_callV (M' := mX12_nodes) (R' := (Rm (d + 1))) (S := []) [] 12 (w12_kd hw12_r0) cok12 rfl ok_X12_nodes ml_X12_169 pn_X12_nodes (ru_Rm (by decide)) (Nat.le_of_ble_eq_true rfl) d_X12_does_61 (s_X12_nodes (μ := μ)  hw12_r0 ?_)
    show G X (Rm (d + 2)) mX12_does 64 [(0, .ref r0), (1, .int l1), (2, .int l2), (3, .int l3)] [.int (e_X12_nodes μ r0)] μ 0 0 K
    refine G_bipush d_X12_does_64 bp_6 ?_
    refine G_icmp_ne (tgt := 72) d_X12_does_66 rfl (fun c1 => ?_) (fun c1 => ?_)
    ·
      exact (h_2 c0 c1)
    ·
      refine G_bipush d_X12_does_69 bp_m3 ?_
      exact G_iret rfl rfl rfl d_X12_does_71 (hK c0 c1)
theorem b_X12_does_72 {X : cX} {d : Nat} {μ : mM} {K : Option Value → mM → Prop} {r0 : Nat} {l1 : Int32} {l2 : Int32} {l3 : Int32} (h : ¬ l1 = (2 : Int32) → l1 = (3 : Int32) → G X (Rm (d + 2)) mX12_does 95 [(0, .ref r0), (1, .int l1), (2, .int l2), (3, .int l3)] [] μ 0 0 K) (h_2 : ¬ l1 = (2 : Int32) → ¬ l1 = (3 : Int32) → ¬ l1 = (4 : Int32) → G X (Rm (d + 2)) mX12_does 104 [(0, .ref r0), (1, .int l1), (2, .int l2), (3, .int l3)] [.int 2] μ 0 0 K) (h_3 : ¬ l1 = (2 : Int32) → ¬ l1 = (3 : Int32) → l1 = (4 : Int32) → G X (Rm (d + 2)) mX12_does 95 [(0, .ref r0), (1, .int l1), (2, .int l2), (3, .int l3)] [] μ 0 0 K) (hw12_r0 : WF12 μ r0) (hc_heldOf : l1 = (2 : Int32) → Ct X (Rm (d + 1)) mX12_heldOf [.ref r0, .int l3] μ (fun r μ2 => G X (Rm (d + 2)) mX12_does 82 [(0, .ref r0), (1, .int l1), (2, .int l2), (3, .int l3)] (r.toList ++ []) μ2 0 0 K)) : G X (Rm (d + 2)) mX12_does 72 [(0, .ref r0), (1, .int l1), (2, .int l2), (3, .int l3)] [] μ 0 0 K := by
  refine G_iload_n d_X12_does_72 rfl 1 rfl ?_
  refine G_iconst d_X12_does_73 ic_2 ?_
  refine G_icmp_ne (tgt := 85) d_X12_does_74 rfl (fun c0 => ?_) (fun c0 => ?_)
  ·
    refine G_iload_n d_X12_does_85 rfl 1 rfl ?_
    refine G_iconst d_X12_does_86 ic_3 ?_
    refine G_icmp_eq (tgt := 95) d_X12_does_87 rfl (fun c1 => ?_) (fun c1 => ?_)
    ·
      exact (h c0 c1)
    ·
      refine G_iload_n d_X12_does_90 rfl 1 rfl ?_
      refine G_iconst d_X12_does_91 ic_4 ?_
      refine G_icmp_ne (tgt := 103) d_X12_does_92 rfl (fun c2 => ?_) (fun c2 => ?_)
      ·
        refine G_iconst d_X12_does_103 ic_2 ?_
        exact (h_2 c0 c1 c2)
      ·
        exact (h_3 c0 c1 c2)
  ·
    refine G_aload_n d_X12_does_77 rfl 0 rfl ?_
    refine G_iload_n d_X12_does_78 rfl 3 rfl ?_
    refine G_callV (M' := mX12_heldOf) (R' := (Rm (d + 1))) (S := []) [.int l3] 12 (w12_kd hw12_r0) cok12 rfl ok_X12_heldOf ml_X12_210 pn_X12_heldOf (ru_Rm (by decide)) (Nat.le_of_ble_eq_true rfl) d_X12_does_79 ?_
    exact (hc_heldOf c0)
theorem b_X12_does_82 {X : cX} {d : Nat} {μ : mM} {K : Option Value → mM → Prop} {r0 : Nat} {l1 : Int32} {l2 : Int32} {l3 : Int32} {v0 : Int32} (h : G X (Rm (d + 2)) mX12_does 104 [(0, .ref r0), (1, .int l1), (2, .int l2), (3, .int l3)] [.int v0] μ 0 0 K) : G X (Rm (d + 2)) mX12_does 82 [(0, .ref r0), (1, .int l1), (2, .int l2), (3, .int l3)] [.int v0] μ 0 0 K := by
  refine G_goto (tgt := 104) d_X12_does_82 rfl ?_
  exact h
theorem b_X12_does_95 {X : cX} {d : Nat} {μ : mM} {K : Option Value → mM → Prop} {r0 : Nat} {l1 : Int32} {l2 : Int32} {l3 : Int32} (hw12_r0 : WF12 μ r0) (hc_heldOf : Ct X (Rm (d + 1)) mX12_heldOf [.ref r0, .int l2] μ (fun r μ2 => G X (Rm (d + 2)) mX12_does 100 [(0, .ref r0), (1, .int l1), (2, .int l2), (3, .int l3)] (r.toList ++ []) μ2 0 0 K)) : G X (Rm (d + 2)) mX12_does 95 [(0, .ref r0), (1, .int l1), (2, .int l2), (3, .int l3)] [] μ 0 0 K := by
  refine G_aload_n d_X12_does_95 rfl 0 rfl ?_
  refine G_iload_n d_X12_does_96 rfl 2 rfl ?_
  refine G_callV (M' := mX12_heldOf) (R' := (Rm (d + 1))) (S := []) [.int l2] 12 (w12_kd hw12_r0) cok12 rfl ok_X12_heldOf ml_X12_210 pn_X12_heldOf (ru_Rm (by decide)) (Nat.le_of_ble_eq_true rfl) d_X12_does_97 ?_
  exact hc_heldOf
theorem b_X12_does_100 {X : cX} {d : Nat} {μ : mM} {K : Option Value → mM → Prop} {r0 : Nat} {l1 : Int32} {l2 : Int32} {l3 : Int32} {v0 : Int32} (h : G X (Rm (d + 2)) mX12_does 104 [(0, .ref r0), (1, .int l1), (2, .int l2), (3, .int l3)] [.int v0] μ 0 0 K) : G X (Rm (d + 2)) mX12_does 100 [(0, .ref r0), (1, .int l1), (2, .int l2), (3, .int l3)] [.int v0] μ 0 0 K := by
  refine G_goto (tgt := 104) d_X12_does_100 rfl ?_
  exact h
theorem b_X12_does_104 {X : cX} {d : Nat} {μ : mM} {K : Option Value → mM → Prop} {r0 : Nat} {l1 : Int32} {l2 : Int32} {l3 : Int32} {v0 : Int32} (hw12_r0 : WF12 μ r0) (hc_isAtAlone : l1 = 0 → Ct X (Rm (d + 1)) mX12_isAtAlone [.ref r0, .int l2, .int (-4)] μ (fun r μ2 => G X (Rm (d + 2)) mX12_does 147 [(5, .int v0)] (r.toList ++ []) μ2 0 0 K)) (h : l1 = 1 → G X (Rm (d + 2)) mX12_does 153 [(0, .ref r0), (2, .int l2), (3, .int l3), (5, .int v0), (6, .int (nI 0))] [] μ 0 0 K) (hc_becomesNext : l1 = 2 → Ct X (Rm (d + 1)) mX12_becomesNext [.ref r0, .int l2, .int l3] μ (fun r μ2 => G X (Rm (d + 2)) mX12_does 197 [(5, .int v0)] (r.toList ++ []) μ2 0 0 K)) (hc_leads : l1 = 3 → Ct X (Rm (d + 1)) mX12_leads [.ref r0, .int l2, .int 0, .int 0] μ (fun r μ2 => G X (Rm (d + 2)) mX12_does 207 [(5, .int v0)] (r.toList ++ []) μ2 0 0 K)) (hc_leads_2 : l1 = 4 → Ct X (Rm (d + 1)) mX12_leads [.ref r0, .int l2, .int l3, .int 1] μ (fun r μ2 => G X (Rm (d + 2)) mX12_does 217 [(5, .int v0)] (r.toList ++ []) μ2 0 0 K)) (hc_comes : (l1.toInt < 0 ∨ 4 < l1.toInt) → Ct X (Rm (d + 1)) mX12_comes [.ref r0, .int 0] μ (fun r μ2 => G X (Rm (d + 2)) mX12_does 225 [(0, .ref r0), (2, .int l2), (5, .int v0)] (r.toList ++ []) μ2 0 0 K)) : G X (Rm (d + 2)) mX12_does 104 [(0, .ref r0), (1, .int l1), (2, .int l2), (3, .int l3)] [.int v0] μ 0 0 K := by
  refine G_istore (L' := [(5, .int v0), (0, .ref r0), (1, .int l1), (2, .int l2), (3, .int l3)]) d_X12_does_104 (by decide) rfl ?_
  refine G_iload_n d_X12_does_106 rfl 2 rfl ?_
  by_cases c0 : l1 = 0
  ·
    refine G_tableIn (tgt := 140) (off := 33) d_X12_does_107 (by rw [c0]; decide) (by rw [c0]; decide) (by rw [c0]; decide) rfl ?_
    refine G_aload_n d_X12_does_140 rfl 1 rfl ?_
    refine G_iload_n d_X12_does_141 rfl 3 rfl ?_
    refine G_bipush d_X12_does_142 bp_m4 ?_
    refine G_sub (L' := [(5, .int v0)]) [0] rfl ?_
    refine G_callV (M' := mX12_isAtAlone) (R' := (Rm (d + 1))) (S := []) [.int l2, .int (-4)] 12 (w12_kd hw12_r0) cok12 rfl ok_X12_isAtAlone ml_X12_250 pn_X12_isAtAlone (ru_Rm (by decide)) (Nat.le_of_ble_eq_true rfl) d_X12_does_144 ?_
    exact (hc_isAtAlone c0)
  have z0 := lv_neT c0 (show (0 : Int32).toInt = 0 from rfl)
  by_cases c0 : l1 = 1
  ·
    refine G_tableIn (tgt := 150) (off := 43) d_X12_does_107 (by rw [c0]; decide) (by rw [c0]; decide) (by rw [c0]; decide) rfl ?_
    refine G_iconst d_X12_does_150 ic_0 ?_
    refine G_istore (L' := [(6, .int (nI 0)), (5, .int v0), (0, .ref r0), (1, .int l1), (2, .int l2), (3, .int l3)]) d_X12_does_151 (by decide) rfl ?_
    refine G_sub (L' := [(0, .ref r0), (2, .int l2), (3, .int l3), (5, .int v0), (6, .int (nI 0))]) [2, 4, 5, 1, 0] rfl ?_
    exact (h c0)
  have z1 := lv_neT c0 (show (1 : Int32).toInt = 1 from rfl)
  by_cases c0 : l1 = 2
  ·
    refine G_tableIn (tgt := 191) (off := 84) d_X12_does_107 (by rw [c0]; decide) (by rw [c0]; decide) (by rw [c0]; decide) rfl ?_
    refine G_aload_n d_X12_does_191 rfl 1 rfl ?_
    refine G_iload_n d_X12_does_192 rfl 3 rfl ?_
    refine G_iload_n d_X12_does_193 rfl 4 rfl ?_
    refine G_sub (L' := [(5, .int v0)]) [0] rfl ?_
    refine G_callV (M' := mX12_becomesNext) (R' := (Rm (d + 1))) (S := []) [.int l2, .int l3] 12 (w12_kd hw12_r0) cok12 rfl ok_X12_becomesNext ml_X12_253 pn_X12_becomesNext (ru_Rm (by decide)) (Nat.le_of_ble_eq_true rfl) d_X12_does_194 ?_
    exact (hc_becomesNext c0)
  have z2 := lv_neT c0 (show (2 : Int32).toInt = 2 from rfl)
  by_cases c0 : l1 = 3
  ·
    refine G_tableIn (tgt := 200) (off := 93) d_X12_does_107 (by rw [c0]; decide) (by rw [c0]; decide) (by rw [c0]; decide) rfl ?_
    refine G_aload_n d_X12_does_200 rfl 1 rfl ?_
    refine G_iload_n d_X12_does_201 rfl 3 rfl ?_
    refine G_iconst d_X12_does_202 ic_0 ?_
    refine G_iconst d_X12_does_203 ic_0 ?_
    refine G_sub (L' := [(5, .int v0)]) [0] rfl ?_
    refine G_callV (M' := mX12_leads) (R' := (Rm (d + 1))) (S := []) [.int l2, .int 0, .int 0] 12 (w12_kd hw12_r0) cok12 rfl ok_X12_leads ml_X12_256 pn_X12_leads (ru_Rm (by decide)) (Nat.le_of_ble_eq_true rfl) d_X12_does_204 ?_
    exact (hc_leads c0)
  have z3 := lv_neT c0 (show (3 : Int32).toInt = 3 from rfl)
  by_cases c0 : l1 = 4
  ·
    refine G_tableIn (tgt := 210) (off := 103) d_X12_does_107 (by rw [c0]; decide) (by rw [c0]; decide) (by rw [c0]; decide) rfl ?_
    refine G_aload_n d_X12_does_210 rfl 1 rfl ?_
    refine G_iload_n d_X12_does_211 rfl 3 rfl ?_
    refine G_iload_n d_X12_does_212 rfl 4 rfl ?_
    refine G_iconst d_X12_does_213 ic_1 ?_
    refine G_sub (L' := [(5, .int v0)]) [0] rfl ?_
    refine G_callV (M' := mX12_leads) (R' := (Rm (d + 1))) (S := []) [.int l2, .int l3, .int 1] 12 (w12_kd hw12_r0) cok12 rfl ok_X12_leads ml_X12_256 pn_X12_leads (ru_Rm (by decide)) (Nat.le_of_ble_eq_true rfl) d_X12_does_214 ?_
    exact (hc_leads_2 c0)
  have z4 := lv_neT c0 (show (4 : Int32).toInt = 4 from rfl)
  have c0 : l1.toInt < 0 ∨ 4 < l1.toInt := by omega
  refine G_tableOut (tgt := 220) d_X12_does_107 c0 rfl ?_
  refine G_aload_n d_X12_does_220 rfl 1 rfl ?_
  refine G_iconst d_X12_does_221 ic_0 ?_
  refine G_sub (L' := [(0, .ref r0), (2, .int l2), (5, .int v0)]) [1, 3, 0] rfl ?_
  refine G_callV (M' := mX12_comes) (R' := (Rm (d + 1))) (S := []) [.int 0] 12 (w12_kd hw12_r0) cok12 rfl ok_X12_comes ml_X12_238 pn_X12_comes (ru_Rm (by decide)) (Nat.le_of_ble_eq_true rfl) d_X12_does_222 ?_
  exact (hc_comes c0)
theorem b_X12_does_147 {X : cX} {d : Nat} {μ : mM} {K : Option Value → mM → Prop} {l5 : Int32} (h : G X (Rm (d + 2)) mX12_does 236 [(5, .int l5)] [] μ 0 0 K) : G X (Rm (d + 2)) mX12_does 147 [(5, .int l5)] [] μ 0 0 K := by
  refine G_goto (tgt := 236) d_X12_does_147 rfl ?_
  exact h
theorem b_X12_does_153 {X : cX} {d : Nat} {μ : mM} {K : Option Value → mM → Prop} {r0 : Nat} {i2 : Nat} {i3 : Nat} {l5 : Int32} {i6 : Nat} (h : (6 : Int32) ≤ (nI i6) → G X (Rm (d + 2)) mX12_does 236 [(5, .int l5)] [] μ 0 0 K) (hw12_r0 : WF12 μ r0) (hs : ¬ (6 : Int32) ≤ (nI i6) → ((6 + (6 * i3)) + i6) < 366) (hb : ¬ (6 : Int32) ≤ (nI i6) → ((6 + (6 * i2)) + i6) < 366) (h_2 : ¬ (6 : Int32) ≤ (nI i6) → G X (Rm (d + 2)) mX12_does 153 [(0, .ref r0), (2, .int (nI i2)), (3, .int (nI i3)), (5, .int l5), (6, .int (nI (i6 + 1)))] [] (wi μ (r0 + 1) ((6 + (6 * i2)) + i6) (e_X12_atOf μ r0 i3 i6)) 0 0 K) : G X (Rm (d + 2)) mX12_does 153 [(0, .ref r0), (2, .int (nI i2)), (3, .int (nI i3)), (5, .int l5), (6, .int (nI i6))] [] μ 0 0 K := by
  refine G_iload d_X12_does_153 4 rfl ?_
  refine G_bipush d_X12_does_155 bp_6 ?_
  refine G_icmp_ge (tgt := 188) d_X12_does_157 rfl (fun c0 => ?_) (fun c0 => ?_)
  ·
    refine G_goto (tgt := 236) d_X12_does_188 rfl ?_
    refine G_sub (L' := [(5, .int l5)]) [3] rfl ?_
    exact (h c0)
  ·
    refine G_aload_n d_X12_does_160 rfl 0 rfl ?_
    refine G_getR (r := r0 + 1) 12 0 (w12_kd hw12_r0) (w12_f0 hw12_r0) cok12 (by decide) rfl fl_X12_7 d_X12_does_161 ?_
    refine G_bipush d_X12_does_164 bp_6 ?_
    refine G_bipush d_X12_does_166 bp_6 ?_
    refine G_iload_n d_X12_does_168 rfl 1 rfl ?_
    refine G_imul d_X12_does_169 ?_
    refine G_iadd d_X12_does_170 ?_
    refine G_iload d_X12_does_171 4 rfl ?_
    refine G_iadd d_X12_does_173 ?_
    refine G_aload_n d_X12_does_174 rfl 0 rfl ?_
    refine G_iload_n d_X12_does_175 rfl 2 rfl ?_
    refine G_iload d_X12_does_176 4 rfl ?_
    refine G_callV (M' := mX12_atOf) (R' := (Rm (d + 1))) (S := [.int (((6 : Int32) + ((6 : Int32) * (nI i2))) + (nI i6)), .ref (r0 + 1)]) [.int (nI i3), .int (nI i6)] 12 (w12_kd hw12_r0) cok12 rfl ok_X12_atOf ml_X12_178 pn_X12_atOf (ru_Rm (by decide)) (Nat.le_of_ble_eq_true rfl) d_X12_does_178 (s_X12_atOf (μ := μ) (i1 := i3) (i2 := i6) hw12_r0 (hs c0) ?_)
    show G X (Rm (d + 2)) mX12_does 181 [(0, .ref r0), (2, .int (nI i2)), (3, .int (nI i3)), (5, .int l5), (6, .int (nI i6))] [.int (e_X12_atOf μ r0 i3 i6), .int (((6 : Int32) + ((6 : Int32) * (nI i2))) + (nI i6)), .ref (r0 + 1)] μ 0 0 K
    refine G_iast ((6 + (6 * i2)) + i6) (w12_k0 hw12_r0) (nadd (nadd rfl (nmul rfl rfl)) rfl) (hb c0) d_X12_does_181 ?_
    refine G_iinc (L' := [(6, .int (nI (i6 + 1))), (0, .ref r0), (2, .int (nI i2)), (3, .int (nI i3)), (5, .int l5)]) d_X12_does_182 4 rfl (inc1 i6) (by decide) rfl ?_
    refine G_goto (tgt := 153) d_X12_does_185 rfl ?_
    refine G_sub (L' := [(0, .ref r0), (2, .int (nI i2)), (3, .int (nI i3)), (5, .int l5), (6, .int (nI (i6 + 1)))]) [1, 2, 3, 4, 0] rfl ?_
    exact (h_2 c0)
theorem b_X12_does_197 {X : cX} {d : Nat} {μ : mM} {K : Option Value → mM → Prop} {l5 : Int32} (h : G X (Rm (d + 2)) mX12_does 236 [(5, .int l5)] [] μ 0 0 K) : G X (Rm (d + 2)) mX12_does 197 [(5, .int l5)] [] μ 0 0 K := by
  refine G_goto (tgt := 236) d_X12_does_197 rfl ?_
  exact h
theorem b_X12_does_207 {X : cX} {d : Nat} {μ : mM} {K : Option Value → mM → Prop} {l5 : Int32} (h : G X (Rm (d + 2)) mX12_does 236 [(5, .int l5)] [] μ 0 0 K) : G X (Rm (d + 2)) mX12_does 207 [(5, .int l5)] [] μ 0 0 K := by
  refine G_goto (tgt := 236) d_X12_does_207 rfl ?_
  exact h
theorem b_X12_does_217 {X : cX} {d : Nat} {μ : mM} {K : Option Value → mM → Prop} {l5 : Int32} (h : G X (Rm (d + 2)) mX12_does 236 [(5, .int l5)] [] μ 0 0 K) : G X (Rm (d + 2)) mX12_does 217 [(5, .int l5)] [] μ 0 0 K := by
  refine G_goto (tgt := 236) d_X12_does_217 rfl ?_
  exact h
theorem b_X12_does_225 {X : cX} {d : Nat} {μ : mM} {K : Option Value → mM → Prop} {r0 : Nat} {l2 : Int32} {l5 : Int32} (hw12_r0 : WF12 μ r0) (hc_isAtAlone : Ct X (Rm (d + 1)) mX12_isAtAlone [.ref r0, .int l2, .int ((e_X12_nodes μ r0) - 1)] μ (fun r μ2 => G X (Rm (d + 2)) mX12_does 236 [(5, .int l5)] (r.toList ++ []) μ2 0 0 K)) : G X (Rm (d + 2)) mX12_does 225 [(0, .ref r0), (2, .int l2), (5, .int l5)] [] μ 0 0 K := by
  refine G_aload_n d_X12_does_225 rfl 0 rfl ?_
  refine G_iload_n d_X12_does_226 rfl 1 rfl ?_
  refine G_aload_n d_X12_does_227 rfl 0 rfl ?_
  refine G_callV (M' := mX12_nodes) (R' := (Rm (d + 1))) (S := [.int l2, .ref r0]) [] 12 (w12_kd hw12_r0) cok12 rfl ok_X12_nodes ml_X12_169 pn_X12_nodes (ru_Rm (by decide)) (Nat.le_of_ble_eq_true rfl) d_X12_does_228 (s_X12_nodes (μ := μ)  hw12_r0 ?_)
  show G X (Rm (d + 2)) mX12_does 231 [(0, .ref r0), (2, .int l2), (5, .int l5)] [.int (e_X12_nodes μ r0), .int l2, .ref r0] μ 0 0 K
  refine G_iconst d_X12_does_231 ic_1 ?_
  refine G_isub d_X12_does_232 ?_
  refine G_sub (L' := [(5, .int l5)]) [2] rfl ?_
  refine G_callV (M' := mX12_isAtAlone) (R' := (Rm (d + 1))) (S := []) [.int l2, .int ((e_X12_nodes μ r0) - 1)] 12 (w12_kd hw12_r0) cok12 rfl ok_X12_isAtAlone ml_X12_250 pn_X12_isAtAlone (ru_Rm (by decide)) (Nat.le_of_ble_eq_true rfl) d_X12_does_233 ?_
  exact hc_isAtAlone
theorem b_X12_does_236 {X : cX} {d : Nat} {μ : mM} {K : Option Value → mM → Prop} {l5 : Int32} (hK : K (some (.int l5)) μ) : G X (Rm (d + 2)) mX12_does 236 [(5, .int l5)] [] μ 0 0 K := by
  refine G_iload d_X12_does_236 0 rfl ?_
  exact G_iret rfl rfl rfl d_X12_does_238 hK
theorem d_X12_deed_0 : decode cX12_deed 0 = .ok (.aload_n 0, 1) := by decide +kernel
theorem d_X12_deed_1 : decode cX12_deed 1 = .ok (.iload_n 1, 1) := by decide +kernel
theorem d_X12_deed_2 : decode cX12_deed 2 = .ok (.iload_n 2, 1) := by decide +kernel
theorem d_X12_deed_3 : decode cX12_deed 3 = .ok (.iload_n 3, 1) := by decide +kernel
theorem d_X12_deed_4 : decode cX12_deed 4 = .ok (.invokevirtual 260, 3) := by decide +kernel
theorem d_X12_deed_7 : decode cX12_deed 7 = .ok (.ireturn, 1) := by decide +kernel
theorem b_X12_deed_0 {X : cX} {d : Nat} {μ : mM} {K : Option Value → mM → Prop} {r0 : Nat} {l1 : Int32} {l2 : Int32} {l3 : Int32} (hw12_r0 : WF12 μ r0) (hc_does : Ct X (Rm (d + 2)) mX12_does [.ref r0, .int l1, .int l2, .int l3] μ (fun r μ2 => G X (Rm (d + 3)) mX12_deed 7 [] (r.toList ++ []) μ2 0 0 K)) : G X (Rm (d + 3)) mX12_deed 0 [(0, .ref r0), (1, .int l1), (2, .int l2), (3, .int l3)] [] μ 0 0 K := by
  refine G_aload_n d_X12_deed_0 rfl 0 rfl ?_
  refine G_iload_n d_X12_deed_1 rfl 1 rfl ?_
  refine G_iload_n d_X12_deed_2 rfl 2 rfl ?_
  refine G_iload_n d_X12_deed_3 rfl 3 rfl ?_
  refine G_sub (L' := []) [] rfl ?_
  refine G_callV (M' := mX12_does) (R' := (Rm (d + 2))) (S := []) [.int l1, .int l2, .int l3] 12 (w12_kd hw12_r0) cok12 rfl ok_X12_does ml_X12_260 pn_X12_does (ru_Rm (by decide)) (Nat.le_of_ble_eq_true rfl) d_X12_deed_4 ?_
  exact hc_does
theorem b_X12_deed_7 {X : cX} {d : Nat} {μ : mM} {K : Option Value → mM → Prop} {v0 : Int32} (hK : K (some (.int v0)) μ) : G X (Rm (d + 3)) mX12_deed 7 [] [.int v0] μ 0 0 K := by
  exact G_iret rfl rfl rfl d_X12_deed_7 hK
theorem d_X12_isAlike_0 : decode cX12_isAlike 0 = .ok (.iconst 1, 1) := by decide +kernel
theorem d_X12_isAlike_1 : decode cX12_isAlike 1 = .ok (.istore 4, 2) := by decide +kernel
theorem d_X12_isAlike_3 : decode cX12_isAlike 3 = .ok (.iconst 0, 1) := by decide +kernel
theorem d_X12_isAlike_4 : decode cX12_isAlike 4 = .ok (.istore 5, 2) := by decide +kernel
theorem d_X12_isAlike_6 : decode cX12_isAlike 6 = .ok (.iload 5, 2) := by decide +kernel
theorem d_X12_isAlike_8 : decode cX12_isAlike 8 = .ok (.iconst 3, 1) := by decide +kernel
theorem d_X12_isAlike_9 : decode cX12_isAlike 9 = .ok (.if_icmp .ge 69, 3) := by decide +kernel
theorem d_X12_isAlike_12 : decode cX12_isAlike 12 = .ok (.iload 4, 2) := by decide +kernel
theorem d_X12_isAlike_14 : decode cX12_isAlike 14 = .ok (.ifCond .eq 55, 3) := by decide +kernel
theorem d_X12_isAlike_17 : decode cX12_isAlike 17 = .ok (.aload_n 0, 1) := by decide +kernel
theorem d_X12_isAlike_18 : decode cX12_isAlike 18 = .ok (.iload 5, 2) := by decide +kernel
theorem d_X12_isAlike_20 : decode cX12_isAlike 20 = .ok (.iload_n 1, 1) := by decide +kernel
theorem d_X12_isAlike_21 : decode cX12_isAlike 21 = .ok (.invokevirtual 178, 3) := by decide +kernel
theorem d_X12_isAlike_24 : decode cX12_isAlike 24 = .ok (.aload_n 0, 1) := by decide +kernel
theorem d_X12_isAlike_25 : decode cX12_isAlike 25 = .ok (.iload 5, 2) := by decide +kernel
theorem d_X12_isAlike_27 : decode cX12_isAlike 27 = .ok (.iload_n 2, 1) := by decide +kernel
theorem d_X12_isAlike_28 : decode cX12_isAlike 28 = .ok (.invokevirtual 178, 3) := by decide +kernel
theorem d_X12_isAlike_31 : decode cX12_isAlike 31 = .ok (.if_icmp .ne 38, 3) := by decide +kernel
theorem d_X12_isAlike_34 : decode cX12_isAlike 34 = .ok (.iload_n 3, 1) := by decide +kernel
theorem d_X12_isAlike_35 : decode cX12_isAlike 35 = .ok (.ifCond .eq 30, 3) := by decide +kernel
theorem d_X12_isAlike_38 : decode cX12_isAlike 38 = .ok (.aload_n 0, 1) := by decide +kernel
theorem d_X12_isAlike_39 : decode cX12_isAlike 39 = .ok (.getfield 40, 3) := by decide +kernel
theorem d_X12_isAlike_42 : decode cX12_isAlike 42 = .ok (.bipush 6, 2) := by decide +kernel
theorem d_X12_isAlike_44 : decode cX12_isAlike 44 = .ok (.iload 5, 2) := by decide +kernel
theorem d_X12_isAlike_46 : decode cX12_isAlike 46 = .ok (.imul, 1) := by decide +kernel
theorem d_X12_isAlike_47 : decode cX12_isAlike 47 = .ok (.iload_n 1, 1) := by decide +kernel
theorem d_X12_isAlike_48 : decode cX12_isAlike 48 = .ok (.iadd, 1) := by decide +kernel
theorem d_X12_isAlike_49 : decode cX12_isAlike 49 = .ok (.iaload, 1) := by decide +kernel
theorem d_X12_isAlike_50 : decode cX12_isAlike 50 = .ok (.aload_n 0, 1) := by decide +kernel
theorem d_X12_isAlike_51 : decode cX12_isAlike 51 = .ok (.getfield 40, 3) := by decide +kernel
theorem d_X12_isAlike_54 : decode cX12_isAlike 54 = .ok (.bipush 6, 2) := by decide +kernel
theorem d_X12_isAlike_56 : decode cX12_isAlike 56 = .ok (.iload 5, 2) := by decide +kernel
theorem d_X12_isAlike_58 : decode cX12_isAlike 58 = .ok (.imul, 1) := by decide +kernel
theorem d_X12_isAlike_59 : decode cX12_isAlike 59 = .ok (.iload_n 2, 1) := by decide +kernel
theorem d_X12_isAlike_60 : decode cX12_isAlike 60 = .ok (.iadd, 1) := by decide +kernel
theorem d_X12_isAlike_61 : decode cX12_isAlike 61 = .ok (.iaload, 1) := by decide +kernel
theorem d_X12_isAlike_62 : decode cX12_isAlike 62 = .ok (.if_icmp .ne 7, 3) := by decide +kernel
theorem d_X12_isAlike_65 : decode cX12_isAlike 65 = .ok (.iconst 1, 1) := by decide +kernel
theorem d_X12_isAlike_66 : decode cX12_isAlike 66 = .ok (.goto 4, 3) := by decide +kernel
theorem d_X12_isAlike_69 : decode cX12_isAlike 69 = .ok (.iconst 0, 1) := by decide +kernel
theorem d_X12_isAlike_70 : decode cX12_isAlike 70 = .ok (.istore 4, 2) := by decide +kernel
theorem d_X12_isAlike_72 : decode cX12_isAlike 72 = .ok (.iinc 5 1, 3) := by decide +kernel
theorem d_X12_isAlike_75 : decode cX12_isAlike 75 = .ok (.goto (-69), 3) := by decide +kernel
theorem d_X12_isAlike_78 : decode cX12_isAlike 78 = .ok (.iload 4, 2) := by decide +kernel
theorem d_X12_isAlike_80 : decode cX12_isAlike 80 = .ok (.ireturn, 1) := by decide +kernel
theorem b_X12_isAlike_0 {X : cX} {d : Nat} {μ : mM} {K : Option Value → mM → Prop} {r0 : Nat} {l1 : Int32} {l2 : Int32} {l3 : Int32} (h : G X (Rm (d + 1)) mX12_isAlike 6 [(0, .ref r0), (1, .int l1), (2, .int l2), (3, .int l3), (4, .int 1), (5, .int (nI 0))] [] μ 0 0 K) : G X (Rm (d + 1)) mX12_isAlike 0 [(0, .ref r0), (1, .int l1), (2, .int l2), (3, .int l3)] [] μ 0 0 K := by
  refine G_iconst d_X12_isAlike_0 ic_1 ?_
  refine G_istore (L' := [(4, .int 1), (0, .ref r0), (1, .int l1), (2, .int l2), (3, .int l3)]) d_X12_isAlike_1 (by decide) rfl ?_
  refine G_iconst d_X12_isAlike_3 ic_0 ?_
  refine G_istore (L' := [(5, .int (nI 0)), (4, .int 1), (0, .ref r0), (1, .int l1), (2, .int l2), (3, .int l3)]) d_X12_isAlike_4 (by decide) rfl ?_
  refine G_sub (L' := [(0, .ref r0), (1, .int l1), (2, .int l2), (3, .int l3), (4, .int 1), (5, .int (nI 0))]) [2, 3, 4, 5, 1, 0] rfl ?_
  exact h
theorem b_X12_isAlike_6 {X : cX} {d : Nat} {μ : mM} {K : Option Value → mM → Prop} {r0 : Nat} {i1 : Nat} {i2 : Nat} {l3 : Int32} {l4 : Int32} {i5 : Nat} (hK : (3 : Int32) ≤ (nI i5) → K (some (.int l4)) μ) (hz : (3 : Int32) ≤ (nI i5) → l4 = 0 ∨ l4 = 1) (h : ¬ (3 : Int32) ≤ (nI i5) → l4 = 0 → G X (Rm (d + 1)) mX12_isAlike 69 [(0, .ref r0), (1, .int (nI i1)), (2, .int (nI i2)), (3, .int l3), (5, .int (nI i5))] [] μ 0 0 K) (hw12_r0 : WF12 μ r0) (hs : ¬ (3 : Int32) ≤ (nI i5) → ¬ l4 = 0 → ((6 + (6 * i5)) + i1) < 366) (hs_2 : ¬ (3 : Int32) ≤ (nI i5) → ¬ l4 = 0 → ((6 + (6 * i5)) + i2) < 366) (h_2 : ¬ (3 : Int32) ≤ (nI i5) → ¬ l4 = 0 → ¬ (e_X12_atOf μ r0 i5 i1) = (e_X12_atOf μ r0 i5 i2) → G X (Rm (d + 1)) mX12_isAlike 69 [(0, .ref r0), (1, .int (nI i1)), (2, .int (nI i2)), (3, .int l3), (5, .int (nI i5))] [] μ 0 0 K) (h_3 : ¬ (3 : Int32) ≤ (nI i5) → ¬ l4 = 0 → (e_X12_atOf μ r0 i5 i1) = (e_X12_atOf μ r0 i5 i2) → l3 = 0 → G X (Rm (d + 1)) mX12_isAlike 65 [(0, .ref r0), (1, .int (nI i1)), (2, .int (nI i2)), (3, .int l3), (5, .int (nI i5))] [] μ 0 0 K) (hb : ¬ (3 : Int32) ≤ (nI i5) → ¬ l4 = 0 → (e_X12_atOf μ r0 i5 i1) = (e_X12_atOf μ r0 i5 i2) → ¬ l3 = 0 → ((6 * i5) + i1) < 18) (hb_2 : ¬ (3 : Int32) ≤ (nI i5) → ¬ l4 = 0 → (e_X12_atOf μ r0 i5 i1) = (e_X12_atOf μ r0 i5 i2) → ¬ l3 = 0 → ((6 * i5) + i2) < 18) (h_4 : ¬ (3 : Int32) ≤ (nI i5) → ¬ l4 = 0 → (e_X12_atOf μ r0 i5 i1) = (e_X12_atOf μ r0 i5 i2) → ¬ l3 = 0 → ¬ (iv μ (r0 + 11) ((6 * i5) + i1)) = (iv μ (r0 + 11) ((6 * i5) + i2)) → G X (Rm (d + 1)) mX12_isAlike 69 [(0, .ref r0), (1, .int (nI i1)), (2, .int (nI i2)), (3, .int l3), (5, .int (nI i5))] [] μ 0 0 K) (h_5 : ¬ (3 : Int32) ≤ (nI i5) → ¬ l4 = 0 → (e_X12_atOf μ r0 i5 i1) = (e_X12_atOf μ r0 i5 i2) → ¬ l3 = 0 → (iv μ (r0 + 11) ((6 * i5) + i1)) = (iv μ (r0 + 11) ((6 * i5) + i2)) → G X (Rm (d + 1)) mX12_isAlike 65 [(0, .ref r0), (1, .int (nI i1)), (2, .int (nI i2)), (3, .int l3), (5, .int (nI i5))] [] μ 0 0 K) : G X (Rm (d + 1)) mX12_isAlike 6 [(0, .ref r0), (1, .int (nI i1)), (2, .int (nI i2)), (3, .int l3), (4, .int l4), (5, .int (nI i5))] [] μ 0 0 K := by
  refine G_iload d_X12_isAlike_6 5 rfl ?_
  refine G_iconst d_X12_isAlike_8 ic_3 ?_
  refine G_icmp_ge (tgt := 78) d_X12_isAlike_9 rfl (fun c0 => ?_) (fun c0 => ?_)
  ·
    refine G_iload d_X12_isAlike_78 4 rfl ?_
    exact G_zret rfl (nar_b (hz c0)) rfl rfl d_X12_isAlike_80 (hK c0)
  ·
    refine G_iload d_X12_isAlike_12 4 rfl ?_
    refine G_if_eq (tgt := 69) d_X12_isAlike_14 rfl (fun c1 => ?_) (fun c1 => ?_)
    ·
      refine G_sub (L' := [(0, .ref r0), (1, .int (nI i1)), (2, .int (nI i2)), (3, .int l3), (5, .int (nI i5))]) [0, 1, 2, 3, 5] rfl ?_
      exact (h c0 c1)
    ·
      refine G_aload_n d_X12_isAlike_17 rfl 0 rfl ?_
      refine G_iload d_X12_isAlike_18 5 rfl ?_
      refine G_iload_n d_X12_isAlike_20 rfl 1 rfl ?_
      refine G_callV (M' := mX12_atOf) (R' := (Rm d)) (S := []) [.int (nI i5), .int (nI i1)] 12 (w12_kd hw12_r0) cok12 rfl ok_X12_atOf ml_X12_178 pn_X12_atOf (ru_Rm (by decide)) (Nat.le_of_ble_eq_true rfl) d_X12_isAlike_21 (s_X12_atOf (μ := μ) (i1 := i5) (i2 := i1) hw12_r0 (hs c0 c1) ?_)
      show G X (Rm (d + 1)) mX12_isAlike 24 [(0, .ref r0), (1, .int (nI i1)), (2, .int (nI i2)), (3, .int l3), (4, .int l4), (5, .int (nI i5))] [.int (e_X12_atOf μ r0 i5 i1)] μ 0 0 K
      refine G_aload_n d_X12_isAlike_24 rfl 0 rfl ?_
      refine G_iload d_X12_isAlike_25 5 rfl ?_
      refine G_iload_n d_X12_isAlike_27 rfl 2 rfl ?_
      refine G_callV (M' := mX12_atOf) (R' := (Rm d)) (S := [.int (e_X12_atOf μ r0 i5 i1)]) [.int (nI i5), .int (nI i2)] 12 (w12_kd hw12_r0) cok12 rfl ok_X12_atOf ml_X12_178 pn_X12_atOf (ru_Rm (by decide)) (Nat.le_of_ble_eq_true rfl) d_X12_isAlike_28 (s_X12_atOf (μ := μ) (i1 := i5) (i2 := i2) hw12_r0 (hs_2 c0 c1) ?_)
      show G X (Rm (d + 1)) mX12_isAlike 31 [(0, .ref r0), (1, .int (nI i1)), (2, .int (nI i2)), (3, .int l3), (4, .int l4), (5, .int (nI i5))] [.int (e_X12_atOf μ r0 i5 i2), .int (e_X12_atOf μ r0 i5 i1)] μ 0 0 K
      refine G_icmp_ne (tgt := 69) d_X12_isAlike_31 rfl (fun c2 => ?_) (fun c2 => ?_)
      ·
        refine G_sub (L' := [(0, .ref r0), (1, .int (nI i1)), (2, .int (nI i2)), (3, .int l3), (5, .int (nI i5))]) [0, 1, 2, 3, 5] rfl ?_
        exact (h_2 c0 c1 c2)
      ·
        refine G_iload_n d_X12_isAlike_34 rfl 3 rfl ?_
        refine G_if_eq (tgt := 65) d_X12_isAlike_35 rfl (fun c3 => ?_) (fun c3 => ?_)
        ·
          refine G_sub (L' := [(0, .ref r0), (1, .int (nI i1)), (2, .int (nI i2)), (3, .int l3), (5, .int (nI i5))]) [0, 1, 2, 3, 5] rfl ?_
          exact (h_3 c0 c1 c2 c3)
        ·
          refine G_aload_n d_X12_isAlike_38 rfl 0 rfl ?_
          refine G_getR (r := r0 + 11) 12 21 (w12_kd hw12_r0) (w12_f21 hw12_r0) cok12 (by decide) rfl fl_X12_40 d_X12_isAlike_39 ?_
          refine G_bipush d_X12_isAlike_42 bp_6 ?_
          refine G_iload d_X12_isAlike_44 5 rfl ?_
          refine G_imul d_X12_isAlike_46 ?_
          refine G_iload_n d_X12_isAlike_47 rfl 1 rfl ?_
          refine G_iadd d_X12_isAlike_48 ?_
          refine G_iald ((6 * i5) + i1) (w12_k21 hw12_r0) (nadd (nmul rfl rfl) rfl) (hb c0 c1 c2 c3) d_X12_isAlike_49 ?_
          refine G_aload_n d_X12_isAlike_50 rfl 0 rfl ?_
          refine G_getR (r := r0 + 11) 12 21 (w12_kd hw12_r0) (w12_f21 hw12_r0) cok12 (by decide) rfl fl_X12_40 d_X12_isAlike_51 ?_
          refine G_bipush d_X12_isAlike_54 bp_6 ?_
          refine G_iload d_X12_isAlike_56 5 rfl ?_
          refine G_imul d_X12_isAlike_58 ?_
          refine G_iload_n d_X12_isAlike_59 rfl 2 rfl ?_
          refine G_iadd d_X12_isAlike_60 ?_
          refine G_iald ((6 * i5) + i2) (w12_k21 hw12_r0) (nadd (nmul rfl rfl) rfl) (hb_2 c0 c1 c2 c3) d_X12_isAlike_61 ?_
          refine G_icmp_ne (tgt := 69) d_X12_isAlike_62 rfl (fun c4 => ?_) (fun c4 => ?_)
          ·
            refine G_sub (L' := [(0, .ref r0), (1, .int (nI i1)), (2, .int (nI i2)), (3, .int l3), (5, .int (nI i5))]) [0, 1, 2, 3, 5] rfl ?_
            exact (h_4 c0 c1 c2 c3 c4)
          ·
            refine G_sub (L' := [(0, .ref r0), (1, .int (nI i1)), (2, .int (nI i2)), (3, .int l3), (5, .int (nI i5))]) [0, 1, 2, 3, 5] rfl ?_
            exact (h_5 c0 c1 c2 c3 c4)
theorem b_X12_isAlike_65 {X : cX} {d : Nat} {μ : mM} {K : Option Value → mM → Prop} {r0 : Nat} {l1 : Int32} {l2 : Int32} {l3 : Int32} {l5 : Int32} (h : G X (Rm (d + 1)) mX12_isAlike 70 [(0, .ref r0), (1, .int l1), (2, .int l2), (3, .int l3), (5, .int l5)] [.int 1] μ 0 0 K) : G X (Rm (d + 1)) mX12_isAlike 65 [(0, .ref r0), (1, .int l1), (2, .int l2), (3, .int l3), (5, .int l5)] [] μ 0 0 K := by
  refine G_iconst d_X12_isAlike_65 ic_1 ?_
  refine G_goto (tgt := 70) d_X12_isAlike_66 rfl ?_
  exact h
theorem b_X12_isAlike_69 {X : cX} {d : Nat} {μ : mM} {K : Option Value → mM → Prop} {r0 : Nat} {l1 : Int32} {l2 : Int32} {l3 : Int32} {l5 : Int32} (h : G X (Rm (d + 1)) mX12_isAlike 70 [(0, .ref r0), (1, .int l1), (2, .int l2), (3, .int l3), (5, .int l5)] [.int 0] μ 0 0 K) : G X (Rm (d + 1)) mX12_isAlike 69 [(0, .ref r0), (1, .int l1), (2, .int l2), (3, .int l3), (5, .int l5)] [] μ 0 0 K := by
  refine G_iconst d_X12_isAlike_69 ic_0 ?_
  exact h
theorem b_X12_isAlike_70 {X : cX} {d : Nat} {μ : mM} {K : Option Value → mM → Prop} {r0 : Nat} {l1 : Int32} {l2 : Int32} {l3 : Int32} {i5 : Nat} {v0 : Int32} (h : G X (Rm (d + 1)) mX12_isAlike 6 [(0, .ref r0), (1, .int l1), (2, .int l2), (3, .int l3), (4, .int v0), (5, .int (nI (i5 + 1)))] [] μ 0 0 K) : G X (Rm (d + 1)) mX12_isAlike 70 [(0, .ref r0), (1, .int l1), (2, .int l2), (3, .int l3), (5, .int (nI i5))] [.int v0] μ 0 0 K := by
  refine G_istore (L' := [(4, .int v0), (0, .ref r0), (1, .int l1), (2, .int l2), (3, .int l3), (5, .int (nI i5))]) d_X12_isAlike_70 (by decide) rfl ?_
  refine G_iinc (L' := [(5, .int (nI (i5 + 1))), (4, .int v0), (0, .ref r0), (1, .int l1), (2, .int l2), (3, .int l3)]) d_X12_isAlike_72 5 rfl (inc1 i5) (by decide) rfl ?_
  refine G_goto (tgt := 6) d_X12_isAlike_75 rfl ?_
  refine G_sub (L' := [(0, .ref r0), (1, .int l1), (2, .int l2), (3, .int l3), (4, .int v0), (5, .int (nI (i5 + 1)))]) [2, 3, 4, 5, 1, 0] rfl ?_
  exact h
