theorem d_X12_readItem_0 : decode cX12_readItem 0 = .ok (.aload_n 0, 1) := by decide +kernel
theorem d_X12_readItem_1 : decode cX12_readItem 1 = .ok (.invokevirtual 114, 3) := by decide +kernel
theorem d_X12_readItem_4 : decode cX12_readItem 4 = .ok (.istore_n 3, 1) := by decide +kernel
theorem d_X12_readItem_5 : decode cX12_readItem 5 = .ok (.iload_n 3, 1) := by decide +kernel
theorem d_X12_readItem_6 : decode cX12_readItem 6 = .ok (.i2l, 1) := by decide +kernel
theorem d_X12_readItem_7 : decode cX12_readItem 7 = .ok (.lconst 0, 1) := by decide +kernel
theorem d_X12_readItem_8 : decode cX12_readItem 8 = .ok (.ldc2_w 127, 3) := by decide +kernel
theorem d_X12_readItem_11 : decode cX12_readItem 11 = .ok (.invokestatic 61, 3) := by decide +kernel
theorem d_X12_readItem_14 : decode cX12_readItem 14 = .ok (.ifCond .ne 10, 3) := by decide +kernel
theorem d_X12_readItem_17 : decode cX12_readItem 17 = .ok (.aload_n 0, 1) := by decide +kernel
theorem d_X12_readItem_18 : decode cX12_readItem 18 = .ok (.iconst 2, 1) := by decide +kernel
theorem d_X12_readItem_19 : decode cX12_readItem 19 = .ok (.invokevirtual 99, 3) := by decide +kernel
theorem d_X12_readItem_22 : decode cX12_readItem 22 = .ok (.iload_n 2, 1) := by decide +kernel
theorem d_X12_readItem_23 : decode cX12_readItem 23 = .ok (.ireturn, 1) := by decide +kernel
theorem d_X12_readItem_24 : decode cX12_readItem 24 = .ok (.aload_n 0, 1) := by decide +kernel
theorem d_X12_readItem_25 : decode cX12_readItem 25 = .ok (.getfield 16, 3) := by decide +kernel
theorem d_X12_readItem_28 : decode cX12_readItem 28 = .ok (.iload_n 1, 1) := by decide +kernel
theorem d_X12_readItem_29 : decode cX12_readItem 29 = .ok (.iconst 2, 1) := by decide +kernel
theorem d_X12_readItem_30 : decode cX12_readItem 30 = .ok (.iadd, 1) := by decide +kernel
theorem d_X12_readItem_31 : decode cX12_readItem 31 = .ok (.iaload, 1) := by decide +kernel
theorem d_X12_readItem_32 : decode cX12_readItem 32 = .ok (.bipush 12, 2) := by decide +kernel
theorem d_X12_readItem_34 : decode cX12_readItem 34 = .ok (.if_icmp .ne 10, 3) := by decide +kernel
theorem d_X12_readItem_37 : decode cX12_readItem 37 = .ok (.aload_n 0, 1) := by decide +kernel
theorem d_X12_readItem_38 : decode cX12_readItem 38 = .ok (.iconst 5, 1) := by decide +kernel
theorem d_X12_readItem_39 : decode cX12_readItem 39 = .ok (.invokevirtual 99, 3) := by decide +kernel
theorem d_X12_readItem_42 : decode cX12_readItem 42 = .ok (.iload_n 2, 1) := by decide +kernel
theorem d_X12_readItem_43 : decode cX12_readItem 43 = .ok (.ireturn, 1) := by decide +kernel
theorem d_X12_readItem_44 : decode cX12_readItem 44 = .ok (.iload_n 3, 1) := by decide +kernel
theorem d_X12_readItem_45 : decode cX12_readItem 45 = .ok (.iconst 5, 1) := by decide +kernel
theorem d_X12_readItem_46 : decode cX12_readItem 46 = .ok (.if_icmp .ne 8, 3) := by decide +kernel
theorem d_X12_readItem_49 : decode cX12_readItem 49 = .ok (.iload_n 2, 1) := by decide +kernel
theorem d_X12_readItem_50 : decode cX12_readItem 50 = .ok (.iconst 1, 1) := by decide +kernel
theorem d_X12_readItem_51 : decode cX12_readItem 51 = .ok (.if_icmp .lt 13, 3) := by decide +kernel
theorem d_X12_readItem_54 : decode cX12_readItem 54 = .ok (.iload_n 3, 1) := by decide +kernel
theorem d_X12_readItem_55 : decode cX12_readItem 55 = .ok (.iconst 5, 1) := by decide +kernel
theorem d_X12_readItem_56 : decode cX12_readItem 56 = .ok (.if_icmp .le 15, 3) := by decide +kernel
theorem d_X12_readItem_59 : decode cX12_readItem 59 = .ok (.iload_n 2, 1) := by decide +kernel
theorem d_X12_readItem_60 : decode cX12_readItem 60 = .ok (.iconst 2, 1) := by decide +kernel
theorem d_X12_readItem_61 : decode cX12_readItem 61 = .ok (.if_icmp .ge 10, 3) := by decide +kernel
theorem d_X12_readItem_64 : decode cX12_readItem 64 = .ok (.aload_n 0, 1) := by decide +kernel
theorem d_X12_readItem_65 : decode cX12_readItem 65 = .ok (.iconst 4, 1) := by decide +kernel
theorem d_X12_readItem_66 : decode cX12_readItem 66 = .ok (.invokevirtual 99, 3) := by decide +kernel
theorem d_X12_readItem_69 : decode cX12_readItem 69 = .ok (.iload_n 2, 1) := by decide +kernel
theorem d_X12_readItem_70 : decode cX12_readItem 70 = .ok (.ireturn, 1) := by decide +kernel
theorem d_X12_readItem_71 : decode cX12_readItem 71 = .ok (.iload_n 1, 1) := by decide +kernel
theorem d_X12_readItem_72 : decode cX12_readItem 72 = .ok (.bipush 8, 2) := by decide +kernel
theorem d_X12_readItem_74 : decode cX12_readItem 74 = .ok (.iadd, 1) := by decide +kernel
theorem d_X12_readItem_75 : decode cX12_readItem 75 = .ok (.iconst 3, 1) := by decide +kernel
theorem d_X12_readItem_76 : decode cX12_readItem 76 = .ok (.aload_n 0, 1) := by decide +kernel
theorem d_X12_readItem_77 : decode cX12_readItem 77 = .ok (.getfield 16, 3) := by decide +kernel
theorem d_X12_readItem_80 : decode cX12_readItem 80 = .ok (.iload_n 1, 1) := by decide +kernel
theorem d_X12_readItem_81 : decode cX12_readItem 81 = .ok (.iconst 2, 1) := by decide +kernel
theorem d_X12_readItem_82 : decode cX12_readItem 82 = .ok (.iadd, 1) := by decide +kernel
theorem d_X12_readItem_83 : decode cX12_readItem 83 = .ok (.iaload, 1) := by decide +kernel
theorem d_X12_readItem_84 : decode cX12_readItem 84 = .ok (.imul, 1) := by decide +kernel
theorem d_X12_readItem_85 : decode cX12_readItem 85 = .ok (.iadd, 1) := by decide +kernel
theorem d_X12_readItem_86 : decode cX12_readItem 86 = .ok (.istore 4, 2) := by decide +kernel
theorem d_X12_readItem_88 : decode cX12_readItem 88 = .ok (.aload_n 0, 1) := by decide +kernel
theorem d_X12_readItem_89 : decode cX12_readItem 89 = .ok (.invokevirtual 108, 3) := by decide +kernel
theorem d_X12_readItem_92 : decode cX12_readItem 92 = .ok (.aload_n 0, 1) := by decide +kernel
theorem d_X12_readItem_93 : decode cX12_readItem 93 = .ok (.getfield 16, 3) := by decide +kernel
theorem d_X12_readItem_96 : decode cX12_readItem 96 = .ok (.iload 4, 2) := by decide +kernel
theorem d_X12_readItem_98 : decode cX12_readItem 98 = .ok (.iload_n 3, 1) := by decide +kernel
theorem d_X12_readItem_99 : decode cX12_readItem 99 = .ok (.iastore, 1) := by decide +kernel
theorem d_X12_readItem_100 : decode cX12_readItem 100 = .ok (.aload_n 0, 1) := by decide +kernel
theorem d_X12_readItem_101 : decode cX12_readItem 101 = .ok (.getfield 16, 3) := by decide +kernel
theorem d_X12_readItem_104 : decode cX12_readItem 104 = .ok (.iload 4, 2) := by decide +kernel
theorem d_X12_readItem_106 : decode cX12_readItem 106 = .ok (.iconst 1, 1) := by decide +kernel
theorem d_X12_readItem_107 : decode cX12_readItem 107 = .ok (.iadd, 1) := by decide +kernel
theorem d_X12_readItem_108 : decode cX12_readItem 108 = .ok (.iload_n 3, 1) := by decide +kernel
theorem d_X12_readItem_109 : decode cX12_readItem 109 = .ok (.i2l, 1) := by decide +kernel
theorem d_X12_readItem_110 : decode cX12_readItem 110 = .ok (.lconst 0, 1) := by decide +kernel
theorem d_X12_readItem_111 : decode cX12_readItem 111 = .ok (.lconst 1, 1) := by decide +kernel
theorem d_X12_readItem_112 : decode cX12_readItem 112 = .ok (.invokestatic 61, 3) := by decide +kernel
theorem d_X12_readItem_115 : decode cX12_readItem 115 = .ok (.ifCond .eq 10, 3) := by decide +kernel
theorem d_X12_readItem_118 : decode cX12_readItem 118 = .ok (.aload_n 0, 1) := by decide +kernel
theorem d_X12_readItem_119 : decode cX12_readItem 119 = .ok (.invokevirtual 118, 3) := by decide +kernel
theorem d_X12_readItem_122 : decode cX12_readItem 122 = .ok (.goto 26, 3) := by decide +kernel
theorem d_X12_readItem_125 : decode cX12_readItem 125 = .ok (.iload_n 3, 1) := by decide +kernel
theorem d_X12_readItem_126 : decode cX12_readItem 126 = .ok (.i2l, 1) := by decide +kernel
theorem d_X12_readItem_127 : decode cX12_readItem 127 = .ok (.ldc2_w 103, 3) := by decide +kernel
theorem d_X12_readItem_130 : decode cX12_readItem 130 = .ok (.ldc2_w 129, 3) := by decide +kernel
theorem d_X12_readItem_133 : decode cX12_readItem 133 = .ok (.invokestatic 61, 3) := by decide +kernel
theorem d_X12_readItem_136 : decode cX12_readItem 136 = .ok (.ifCond .eq 11, 3) := by decide +kernel
theorem d_X12_readItem_139 : decode cX12_readItem 139 = .ok (.aload_n 0, 1) := by decide +kernel
theorem d_X12_readItem_140 : decode cX12_readItem 140 = .ok (.iload_n 1, 1) := by decide +kernel
theorem d_X12_readItem_141 : decode cX12_readItem 141 = .ok (.invokevirtual 131, 3) := by decide +kernel
theorem d_X12_readItem_144 : decode cX12_readItem 144 = .ok (.goto 4, 3) := by decide +kernel
theorem d_X12_readItem_147 : decode cX12_readItem 147 = .ok (.iconst 0, 1) := by decide +kernel
theorem d_X12_readItem_148 : decode cX12_readItem 148 = .ok (.iastore, 1) := by decide +kernel
theorem d_X12_readItem_149 : decode cX12_readItem 149 = .ok (.aload_n 0, 1) := by decide +kernel
theorem d_X12_readItem_150 : decode cX12_readItem 150 = .ok (.getfield 16, 3) := by decide +kernel
theorem d_X12_readItem_153 : decode cX12_readItem 153 = .ok (.iload 4, 2) := by decide +kernel
theorem d_X12_readItem_155 : decode cX12_readItem 155 = .ok (.iconst 2, 1) := by decide +kernel
theorem d_X12_readItem_156 : decode cX12_readItem 156 = .ok (.iadd, 1) := by decide +kernel
theorem d_X12_readItem_157 : decode cX12_readItem 157 = .ok (.iload_n 3, 1) := by decide +kernel
theorem d_X12_readItem_158 : decode cX12_readItem 158 = .ok (.i2l, 1) := by decide +kernel
theorem d_X12_readItem_159 : decode cX12_readItem 159 = .ok (.lconst 0, 1) := by decide +kernel
theorem d_X12_readItem_160 : decode cX12_readItem 160 = .ok (.ldc2_w 134, 3) := by decide +kernel
theorem d_X12_readItem_163 : decode cX12_readItem 163 = .ok (.invokestatic 61, 3) := by decide +kernel
theorem d_X12_readItem_166 : decode cX12_readItem 166 = .ok (.ifCond .eq 11, 3) := by decide +kernel
theorem d_X12_readItem_169 : decode cX12_readItem 169 = .ok (.aload_n 0, 1) := by decide +kernel
theorem d_X12_readItem_170 : decode cX12_readItem 170 = .ok (.iload_n 1, 1) := by decide +kernel
theorem d_X12_readItem_171 : decode cX12_readItem 171 = .ok (.invokevirtual 131, 3) := by decide +kernel
theorem d_X12_readItem_174 : decode cX12_readItem 174 = .ok (.goto 4, 3) := by decide +kernel
theorem d_X12_readItem_177 : decode cX12_readItem 177 = .ok (.iconst 0, 1) := by decide +kernel
theorem d_X12_readItem_178 : decode cX12_readItem 178 = .ok (.iastore, 1) := by decide +kernel
theorem d_X12_readItem_179 : decode cX12_readItem 179 = .ok (.aload_n 0, 1) := by decide +kernel
theorem d_X12_readItem_180 : decode cX12_readItem 180 = .ok (.getfield 16, 3) := by decide +kernel
theorem d_X12_readItem_183 : decode cX12_readItem 183 = .ok (.iload_n 1, 1) := by decide +kernel
theorem d_X12_readItem_184 : decode cX12_readItem 184 = .ok (.iconst 2, 1) := by decide +kernel
theorem d_X12_readItem_185 : decode cX12_readItem 185 = .ok (.iadd, 1) := by decide +kernel
theorem d_X12_readItem_186 : decode cX12_readItem 186 = .ok (.dup2, 1) := by decide +kernel
theorem d_X12_readItem_187 : decode cX12_readItem 187 = .ok (.iaload, 1) := by decide +kernel
theorem d_X12_readItem_188 : decode cX12_readItem 188 = .ok (.iconst 1, 1) := by decide +kernel
theorem d_X12_readItem_189 : decode cX12_readItem 189 = .ok (.iadd, 1) := by decide +kernel
theorem d_X12_readItem_190 : decode cX12_readItem 190 = .ok (.iastore, 1) := by decide +kernel
theorem d_X12_readItem_191 : decode cX12_readItem 191 = .ok (.iload_n 3, 1) := by decide +kernel
theorem d_X12_readItem_192 : decode cX12_readItem 192 = .ok (.iconst 5, 1) := by decide +kernel
theorem d_X12_readItem_193 : decode cX12_readItem 193 = .ok (.if_icmp .ge 9, 3) := by decide +kernel
theorem d_X12_readItem_196 : decode cX12_readItem 196 = .ok (.iload_n 2, 1) := by decide +kernel
theorem d_X12_readItem_197 : decode cX12_readItem 197 = .ok (.iconst 1, 1) := by decide +kernel
theorem d_X12_readItem_198 : decode cX12_readItem 198 = .ok (.iadd, 1) := by decide +kernel
theorem d_X12_readItem_199 : decode cX12_readItem 199 = .ok (.goto 15, 3) := by decide +kernel
theorem d_X12_readItem_202 : decode cX12_readItem 202 = .ok (.iload_n 3, 1) := by decide +kernel
theorem d_X12_readItem_203 : decode cX12_readItem 203 = .ok (.iconst 5, 1) := by decide +kernel
theorem d_X12_readItem_204 : decode cX12_readItem 204 = .ok (.if_icmp .ne 7, 3) := by decide +kernel
theorem d_X12_readItem_207 : decode cX12_readItem 207 = .ok (.iload_n 2, 1) := by decide +kernel
theorem d_X12_readItem_208 : decode cX12_readItem 208 = .ok (.goto 6, 3) := by decide +kernel
theorem d_X12_readItem_211 : decode cX12_readItem 211 = .ok (.iload_n 2, 1) := by decide +kernel
theorem d_X12_readItem_212 : decode cX12_readItem 212 = .ok (.iconst 1, 1) := by decide +kernel
theorem d_X12_readItem_213 : decode cX12_readItem 213 = .ok (.isub, 1) := by decide +kernel
theorem d_X12_readItem_214 : decode cX12_readItem 214 = .ok (.istore 5, 2) := by decide +kernel
theorem d_X12_readItem_216 : decode cX12_readItem 216 = .ok (.aload_n 0, 1) := by decide +kernel
theorem d_X12_readItem_217 : decode cX12_readItem 217 = .ok (.getfield 16, 3) := by decide +kernel
theorem d_X12_readItem_220 : decode cX12_readItem 220 = .ok (.iload_n 1, 1) := by decide +kernel
theorem d_X12_readItem_221 : decode cX12_readItem 221 = .ok (.iconst 3, 1) := by decide +kernel
theorem d_X12_readItem_222 : decode cX12_readItem 222 = .ok (.iadd, 1) := by decide +kernel
theorem d_X12_readItem_223 : decode cX12_readItem 223 = .ok (.iload 5, 2) := by decide +kernel
theorem d_X12_readItem_225 : decode cX12_readItem 225 = .ok (.aload_n 0, 1) := by decide +kernel
theorem d_X12_readItem_226 : decode cX12_readItem 226 = .ok (.getfield 16, 3) := by decide +kernel
theorem d_X12_readItem_229 : decode cX12_readItem 229 = .ok (.iload_n 1, 1) := by decide +kernel
theorem d_X12_readItem_230 : decode cX12_readItem 230 = .ok (.iconst 3, 1) := by decide +kernel
theorem d_X12_readItem_231 : decode cX12_readItem 231 = .ok (.iadd, 1) := by decide +kernel
theorem d_X12_readItem_232 : decode cX12_readItem 232 = .ok (.iaload, 1) := by decide +kernel
theorem d_X12_readItem_233 : decode cX12_readItem 233 = .ok (.if_icmp .le 8, 3) := by decide +kernel
theorem d_X12_readItem_236 : decode cX12_readItem 236 = .ok (.iload 5, 2) := by decide +kernel
theorem d_X12_readItem_238 : decode cX12_readItem 238 = .ok (.goto 11, 3) := by decide +kernel
theorem d_X12_readItem_241 : decode cX12_readItem 241 = .ok (.aload_n 0, 1) := by decide +kernel
theorem d_X12_readItem_242 : decode cX12_readItem 242 = .ok (.getfield 16, 3) := by decide +kernel
theorem d_X12_readItem_245 : decode cX12_readItem 245 = .ok (.iload_n 1, 1) := by decide +kernel
theorem d_X12_readItem_246 : decode cX12_readItem 246 = .ok (.iconst 3, 1) := by decide +kernel
theorem d_X12_readItem_247 : decode cX12_readItem 247 = .ok (.iadd, 1) := by decide +kernel
theorem d_X12_readItem_248 : decode cX12_readItem 248 = .ok (.iaload, 1) := by decide +kernel
theorem d_X12_readItem_249 : decode cX12_readItem 249 = .ok (.iastore, 1) := by decide +kernel
theorem d_X12_readItem_250 : decode cX12_readItem 250 = .ok (.iload 5, 2) := by decide +kernel
theorem d_X12_readItem_252 : decode cX12_readItem 252 = .ok (.ireturn, 1) := by decide +kernel
theorem b_X12_readItem_0 {X : cX} {d : Nat} {μ : mM} {K : Option Value → mM → Prop} {r0 : Nat} {l1 : Int32} {l2 : Int32} (hw12_r0 : WF12 μ r0) (hc_nameHere : Ct X (Rm (d + 2)) mX12_nameHere [.ref r0] μ (fun r μ2 => G X (Rm (d + 3)) mX12_readItem 4 [(0, .ref r0), (1, .int l1), (2, .int l2)] (r.toList ++ []) μ2 0 0 K)) : G X (Rm (d + 3)) mX12_readItem 0 [(0, .ref r0), (1, .int l1), (2, .int l2)] [] μ 0 0 K := by
  refine G_aload_n d_X12_readItem_0 rfl 0 rfl ?_
  refine G_callV (M' := mX12_nameHere) (R' := (Rm (d + 2))) (S := []) [] 12 (w12_kd hw12_r0) cok12 rfl ok_X12_nameHere ml_X12_114 pn_X12_nameHere (ru_Rm (by decide)) (Nat.le_of_ble_eq_true rfl) d_X12_readItem_1 ?_
  exact hc_nameHere
theorem b_X12_readItem_4 {X : cX} {d : Nat} {μ : mM} {K : Option Value → mM → Prop} {r0 : Nat} {i1 : Nat} {l2 : Int32} {v0 : Int32} (hw12_r0 : WF12 μ r0) (hb : ¬ (e_X12_in μ v0.toInt64 0 7) = 0 → (i1 + 2) < 192) (h : ¬ (e_X12_in μ v0.toInt64 0 7) = 0 → ¬ (iv μ (r0 + 3) (i1 + 2)) = (12 : Int32) → ¬ v0 = (5 : Int32) → G X (Rm (d + 3)) mX12_readItem 54 [(0, .ref r0), (1, .int (nI i1)), (2, .int l2), (3, .int v0)] [] μ 0 0 K) (h_2 : ¬ (e_X12_in μ v0.toInt64 0 7) = 0 → ¬ (iv μ (r0 + 3) (i1 + 2)) = (12 : Int32) → v0 = (5 : Int32) → l2 < (1 : Int32) → G X (Rm (d + 3)) mX12_readItem 64 [(0, .ref r0), (2, .int l2)] [] μ 0 0 K) (h_3 : ¬ (e_X12_in μ v0.toInt64 0 7) = 0 → ¬ (iv μ (r0 + 3) (i1 + 2)) = (12 : Int32) → v0 = (5 : Int32) → ¬ l2 < (1 : Int32) → G X (Rm (d + 3)) mX12_readItem 54 [(0, .ref r0), (1, .int (nI i1)), (2, .int l2), (3, .int v0)] [] μ 0 0 K) (hc_fails : ¬ (e_X12_in μ v0.toInt64 0 7) = 0 → (iv μ (r0 + 3) (i1 + 2)) = (12 : Int32) → Ct X (Rm (d + 2)) mX12_fails [.ref r0, .int 5] μ (fun r μ2 => G X (Rm (d + 3)) mX12_readItem 42 [(2, .int l2)] (r.toList ++ []) μ2 0 0 K)) (hc_fails_2 : (e_X12_in μ v0.toInt64 0 7) = 0 → Ct X (Rm (d + 2)) mX12_fails [.ref r0, .int 2] μ (fun r μ2 => G X (Rm (d + 3)) mX12_readItem 22 [(2, .int l2)] (r.toList ++ []) μ2 0 0 K)) : G X (Rm (d + 3)) mX12_readItem 4 [(0, .ref r0), (1, .int (nI i1)), (2, .int l2)] [.int v0] μ 0 0 K := by
  refine G_istore_n (L' := [(3, .int v0), (0, .ref r0), (1, .int (nI i1)), (2, .int l2)]) d_X12_readItem_4 rfl (by decide) rfl ?_
  refine G_iload_n d_X12_readItem_5 rfl 0 rfl ?_
  refine G_i2l (v := v0.toInt64) d_X12_readItem_6 rfl ?_
  refine G_lconst (v := 0) d_X12_readItem_7 rfl ?_
  refine G_ldc2 kl_X12_127 d_X12_readItem_8 ?_
  refine G_callS (M' := mX12_in) (R' := (Rm (d + 2))) (S := []) [.long v0.toInt64, .long 0, .long 7] ok_X12_in ml_X12_61 pn_X12_in (ru_Rm (by decide)) (Nat.le_of_ble_eq_true rfl) d_X12_readItem_11 (s_X12_in (μ := μ)   ?_)
  show G X (Rm (d + 3)) mX12_readItem 14 [(3, .int v0), (0, .ref r0), (1, .int (nI i1)), (2, .int l2)] [.int (e_X12_in μ v0.toInt64 0 7)] μ 0 0 K
  refine G_if_ne (tgt := 24) d_X12_readItem_14 rfl (fun c0 => ?_) (fun c0 => ?_)
  ·
    refine G_aload_n d_X12_readItem_24 rfl 1 rfl ?_
    refine G_getR (r := r0 + 3) 12 3 (w12_kd hw12_r0) (w12_f3 hw12_r0) cok12 (by decide) rfl fl_X12_16 d_X12_readItem_25 ?_
    refine G_iload_n d_X12_readItem_28 rfl 2 rfl ?_
    refine G_iconst d_X12_readItem_29 ic_2 ?_
    refine G_iadd d_X12_readItem_30 ?_
    refine G_iald (i1 + 2) (w12_k3 hw12_r0) (nadd rfl rfl) (hb c0) d_X12_readItem_31 ?_
    refine G_bipush d_X12_readItem_32 bp_12 ?_
    refine G_icmp_ne (tgt := 44) d_X12_readItem_34 rfl (fun c1 => ?_) (fun c1 => ?_)
    ·
      refine G_iload_n d_X12_readItem_44 rfl 0 rfl ?_
      refine G_iconst d_X12_readItem_45 ic_5 ?_
      refine G_icmp_ne (tgt := 54) d_X12_readItem_46 rfl (fun c2 => ?_) (fun c2 => ?_)
      ·
        refine G_sub (L' := [(0, .ref r0), (1, .int (nI i1)), (2, .int l2), (3, .int v0)]) [1, 2, 3, 0] rfl ?_
        exact (h c0 c1 c2)
      ·
        refine G_iload_n d_X12_readItem_49 rfl 3 rfl ?_
        refine G_iconst d_X12_readItem_50 ic_1 ?_
        refine G_icmp_lt (tgt := 64) d_X12_readItem_51 rfl (fun c3 => ?_) (fun c3 => ?_)
        ·
          refine G_sub (L' := [(0, .ref r0), (2, .int l2)]) [1, 3] rfl ?_
          exact (h_2 c0 c1 c2 c3)
        ·
          refine G_sub (L' := [(0, .ref r0), (1, .int (nI i1)), (2, .int l2), (3, .int v0)]) [1, 2, 3, 0] rfl ?_
          exact (h_3 c0 c1 c2 c3)
    ·
      refine G_aload_n d_X12_readItem_37 rfl 1 rfl ?_
      refine G_iconst d_X12_readItem_38 ic_5 ?_
      refine G_sub (L' := [(2, .int l2)]) [3] rfl ?_
      refine G_callV (M' := mX12_fails) (R' := (Rm (d + 2))) (S := []) [.int 5] 12 (w12_kd hw12_r0) cok12 rfl ok_X12_fails ml_X12_99 pn_X12_fails (ru_Rm (by decide)) (Nat.le_of_ble_eq_true rfl) d_X12_readItem_39 ?_
      exact (hc_fails c0 c1)
  ·
    refine G_aload_n d_X12_readItem_17 rfl 1 rfl ?_
    refine G_iconst d_X12_readItem_18 ic_2 ?_
    refine G_sub (L' := [(2, .int l2)]) [3] rfl ?_
    refine G_callV (M' := mX12_fails) (R' := (Rm (d + 2))) (S := []) [.int 2] 12 (w12_kd hw12_r0) cok12 rfl ok_X12_fails ml_X12_99 pn_X12_fails (ru_Rm (by decide)) (Nat.le_of_ble_eq_true rfl) d_X12_readItem_19 ?_
    exact (hc_fails_2 c0)
theorem b_X12_readItem_22 {X : cX} {d : Nat} {μ : mM} {K : Option Value → mM → Prop} {l2 : Int32} (hK : K (some (.int l2)) μ) : G X (Rm (d + 3)) mX12_readItem 22 [(2, .int l2)] [] μ 0 0 K := by
  refine G_iload_n d_X12_readItem_22 rfl 0 rfl ?_
  exact G_iret rfl rfl rfl d_X12_readItem_23 hK
theorem b_X12_readItem_42 {X : cX} {d : Nat} {μ : mM} {K : Option Value → mM → Prop} {l2 : Int32} (hK : K (some (.int l2)) μ) : G X (Rm (d + 3)) mX12_readItem 42 [(2, .int l2)] [] μ 0 0 K := by
  refine G_iload_n d_X12_readItem_42 rfl 0 rfl ?_
  exact G_iret rfl rfl rfl d_X12_readItem_43 hK
theorem b_X12_readItem_54 {X : cX} {d : Nat} {μ : mM} {K : Option Value → mM → Prop} {r0 : Nat} {l1 : Int32} {l2 : Int32} {l3 : Int32} (h : l3 ≤ (5 : Int32) → G X (Rm (d + 3)) mX12_readItem 71 [(0, .ref r0), (1, .int l1), (2, .int l2), (3, .int l3)] [] μ 0 0 K) (h_2 : ¬ l3 ≤ (5 : Int32) → (2 : Int32) ≤ l2 → G X (Rm (d + 3)) mX12_readItem 71 [(0, .ref r0), (1, .int l1), (2, .int l2), (3, .int l3)] [] μ 0 0 K) (h_3 : ¬ l3 ≤ (5 : Int32) → ¬ (2 : Int32) ≤ l2 → G X (Rm (d + 3)) mX12_readItem 64 [(0, .ref r0), (2, .int l2)] [] μ 0 0 K) : G X (Rm (d + 3)) mX12_readItem 54 [(0, .ref r0), (1, .int l1), (2, .int l2), (3, .int l3)] [] μ 0 0 K := by
  refine G_iload_n d_X12_readItem_54 rfl 3 rfl ?_
  refine G_iconst d_X12_readItem_55 ic_5 ?_
  refine G_icmp_le (tgt := 71) d_X12_readItem_56 rfl (fun c0 => ?_) (fun c0 => ?_)
  ·
    exact (h c0)
  ·
    refine G_iload_n d_X12_readItem_59 rfl 2 rfl ?_
    refine G_iconst d_X12_readItem_60 ic_2 ?_
    refine G_icmp_ge (tgt := 71) d_X12_readItem_61 rfl (fun c1 => ?_) (fun c1 => ?_)
    ·
      exact (h_2 c0 c1)
    ·
      refine G_sub (L' := [(0, .ref r0), (2, .int l2)]) [0, 2] rfl ?_
      exact (h_3 c0 c1)
theorem b_X12_readItem_64 {X : cX} {d : Nat} {μ : mM} {K : Option Value → mM → Prop} {r0 : Nat} {l2 : Int32} (hw12_r0 : WF12 μ r0) (hc_fails : Ct X (Rm (d + 2)) mX12_fails [.ref r0, .int 4] μ (fun r μ2 => G X (Rm (d + 3)) mX12_readItem 69 [(2, .int l2)] (r.toList ++ []) μ2 0 0 K)) : G X (Rm (d + 3)) mX12_readItem 64 [(0, .ref r0), (2, .int l2)] [] μ 0 0 K := by
  refine G_aload_n d_X12_readItem_64 rfl 0 rfl ?_
  refine G_iconst d_X12_readItem_65 ic_4 ?_
  refine G_sub (L' := [(2, .int l2)]) [1] rfl ?_
  refine G_callV (M' := mX12_fails) (R' := (Rm (d + 2))) (S := []) [.int 4] 12 (w12_kd hw12_r0) cok12 rfl ok_X12_fails ml_X12_99 pn_X12_fails (ru_Rm (by decide)) (Nat.le_of_ble_eq_true rfl) d_X12_readItem_66 ?_
  exact hc_fails
theorem b_X12_readItem_69 {X : cX} {d : Nat} {μ : mM} {K : Option Value → mM → Prop} {l2 : Int32} (hK : K (some (.int l2)) μ) : G X (Rm (d + 3)) mX12_readItem 69 [(2, .int l2)] [] μ 0 0 K := by
  refine G_iload_n d_X12_readItem_69 rfl 0 rfl ?_
  exact G_iret rfl rfl rfl d_X12_readItem_70 hK
theorem b_X12_readItem_71 {X : cX} {d : Nat} {μ : mM} {K : Option Value → mM → Prop} {r0 : Nat} {i1 : Nat} {l2 : Int32} {l3 : Int32} (hw12_r0 : WF12 μ r0) (hb : (i1 + 2) < 192) (hc_readsOn : Ct X (Rm (d + 2)) mX12_readsOn [.ref r0] μ (fun r μ2 => G X (Rm (d + 3)) mX12_readItem 92 [(0, .ref r0), (1, .int (nI i1)), (2, .int l2), (3, .int l3), (4, .int (((nI i1) + 8) + ((3 : Int32) * (iv μ (r0 + 3) (i1 + 2)))))] (r.toList ++ []) μ2 0 0 K)) : G X (Rm (d + 3)) mX12_readItem 71 [(0, .ref r0), (1, .int (nI i1)), (2, .int l2), (3, .int l3)] [] μ 0 0 K := by
  refine G_iload_n d_X12_readItem_71 rfl 1 rfl ?_
  refine G_bipush d_X12_readItem_72 bp_8 ?_
  refine G_iadd d_X12_readItem_74 ?_
  refine G_iconst d_X12_readItem_75 ic_3 ?_
  refine G_aload_n d_X12_readItem_76 rfl 0 rfl ?_
  refine G_getR (r := r0 + 3) 12 3 (w12_kd hw12_r0) (w12_f3 hw12_r0) cok12 (by decide) rfl fl_X12_16 d_X12_readItem_77 ?_
  refine G_iload_n d_X12_readItem_80 rfl 1 rfl ?_
  refine G_iconst d_X12_readItem_81 ic_2 ?_
  refine G_iadd d_X12_readItem_82 ?_
  refine G_iald (i1 + 2) (w12_k3 hw12_r0) (nadd rfl rfl) hb d_X12_readItem_83 ?_
  refine G_imul d_X12_readItem_84 ?_
  refine G_iadd d_X12_readItem_85 ?_
  refine G_istore (L' := [(4, .int (((nI i1) + 8) + ((3 : Int32) * (iv μ (r0 + 3) (i1 + 2))))), (0, .ref r0), (1, .int (nI i1)), (2, .int l2), (3, .int l3)]) d_X12_readItem_86 (by decide) rfl ?_
  refine G_aload_n d_X12_readItem_88 rfl 1 rfl ?_
  refine G_sub (L' := [(0, .ref r0), (1, .int (nI i1)), (2, .int l2), (3, .int l3), (4, .int (((nI i1) + 8) + ((3 : Int32) * (iv μ (r0 + 3) (i1 + 2)))))]) [1, 2, 3, 4, 0] rfl ?_
  refine G_callV (M' := mX12_readsOn) (R' := (Rm (d + 2))) (S := []) [] 12 (w12_kd hw12_r0) cok12 rfl ok_X12_readsOn ml_X12_108 pn_X12_readsOn (ru_Rm (by decide)) (Nat.le_of_ble_eq_true rfl) d_X12_readItem_89 ?_
  exact hc_readsOn
theorem b_X12_readItem_92 {X : cX} {d : Nat} {μ : mM} {K : Option Value → mM → Prop} {r0 : Nat} {l1 : Int32} {l2 : Int32} {l3 : Int32} {l4 : Int32} {j0 : Nat} (hw12_r0 : WF12 μ r0) (hi_j0 : l4 = nI j0) (hb : j0 < 192) (h : (e_X12_in (wi μ (r0 + 3) j0 l3) l3.toInt64 0 1) = 0 → (e_X12_in (wi μ (r0 + 3) j0 l3) l3.toInt64 2 4) = 0 → G X (Rm (d + 3)) mX12_readItem 148 [(0, .ref r0), (1, .int l1), (2, .int l2), (3, .int l3), (4, .int l4)] [.int 0, .int (l4 + 1), .ref (r0 + 3)] (wi μ (r0 + 3) j0 l3) 0 0 K) (hc_toldRead : (e_X12_in (wi μ (r0 + 3) j0 l3) l3.toInt64 0 1) = 0 → ¬ (e_X12_in (wi μ (r0 + 3) j0 l3) l3.toInt64 2 4) = 0 → Ct X (Rm (d + 2)) mX12_toldRead [.ref r0, .int l1] (wi μ (r0 + 3) j0 l3) (fun r μ2 => G X (Rm (d + 3)) mX12_readItem 144 [(0, .ref r0), (1, .int l1), (2, .int l2), (3, .int l3), (4, .int l4)] (r.toList ++ [.int (l4 + 1), .ref (r0 + 3)]) μ2 0 0 K)) (hc_variableRead : ¬ (e_X12_in (wi μ (r0 + 3) j0 l3) l3.toInt64 0 1) = 0 → Ct X (Rm (d + 2)) mX12_variableRead [.ref r0] (wi μ (r0 + 3) j0 l3) (fun r μ2 => G X (Rm (d + 3)) mX12_readItem 122 [(0, .ref r0), (1, .int l1), (2, .int l2), (3, .int l3), (4, .int l4)] (r.toList ++ [.int (l4 + 1), .ref (r0 + 3)]) μ2 0 0 K)) : G X (Rm (d + 3)) mX12_readItem 92 [(0, .ref r0), (1, .int l1), (2, .int l2), (3, .int l3), (4, .int l4)] [] μ 0 0 K := by
  refine G_aload_n d_X12_readItem_92 rfl 0 rfl ?_
  refine G_getR (r := r0 + 3) 12 3 (w12_kd hw12_r0) (w12_f3 hw12_r0) cok12 (by decide) rfl fl_X12_16 d_X12_readItem_93 ?_
  refine G_iload d_X12_readItem_96 4 rfl ?_
  refine G_iload_n d_X12_readItem_98 rfl 3 rfl ?_
  refine G_iast j0 (w12_k3 hw12_r0) hi_j0 hb d_X12_readItem_99 ?_
  refine G_aload_n d_X12_readItem_100 rfl 0 rfl ?_
  refine G_getR (r := r0 + 3) 12 3 (w12_kd hw12_r0) (w12_f3 hw12_r0) cok12 (by decide) rfl fl_X12_16 d_X12_readItem_101 ?_
  refine G_iload d_X12_readItem_104 4 rfl ?_
  refine G_iconst d_X12_readItem_106 ic_1 ?_
  refine G_iadd d_X12_readItem_107 ?_
  refine G_iload_n d_X12_readItem_108 rfl 3 rfl ?_
  refine G_i2l (v := l3.toInt64) d_X12_readItem_109 rfl ?_
  refine G_lconst (v := 0) d_X12_readItem_110 rfl ?_
  refine G_lconst (v := 1) d_X12_readItem_111 rfl ?_
  refine G_callS (M' := mX12_in) (R' := (Rm (d + 2))) (S := [.int (l4 + 1), .ref (r0 + 3)]) [.long l3.toInt64, .long 0, .long 1] ok_X12_in ml_X12_61 pn_X12_in (ru_Rm (by decide)) (Nat.le_of_ble_eq_true rfl) d_X12_readItem_112 (s_X12_in (μ := wi μ (r0 + 3) j0 l3)   ?_)
  show G X (Rm (d + 3)) mX12_readItem 115 [(0, .ref r0), (1, .int l1), (2, .int l2), (3, .int l3), (4, .int l4)] [.int (e_X12_in (wi μ (r0 + 3) j0 l3) l3.toInt64 0 1), .int (l4 + 1), .ref (r0 + 3)] (wi μ (r0 + 3) j0 l3) 0 0 K
  refine G_if_eq (tgt := 125) d_X12_readItem_115 rfl (fun c0 => ?_) (fun c0 => ?_)
  ·
    refine G_iload_n d_X12_readItem_125 rfl 3 rfl ?_
    refine G_i2l (v := l3.toInt64) d_X12_readItem_126 rfl ?_
    refine G_ldc2 kl_X12_103 d_X12_readItem_127 ?_
    refine G_ldc2 kl_X12_129 d_X12_readItem_130 ?_
    refine G_callS (M' := mX12_in) (R' := (Rm (d + 2))) (S := [.int (l4 + 1), .ref (r0 + 3)]) [.long l3.toInt64, .long 2, .long 4] ok_X12_in ml_X12_61 pn_X12_in (ru_Rm (by decide)) (Nat.le_of_ble_eq_true rfl) d_X12_readItem_133 (s_X12_in (μ := wi μ (r0 + 3) j0 l3)   ?_)
    show G X (Rm (d + 3)) mX12_readItem 136 [(0, .ref r0), (1, .int l1), (2, .int l2), (3, .int l3), (4, .int l4)] [.int (e_X12_in (wi μ (r0 + 3) j0 l3) l3.toInt64 2 4), .int (l4 + 1), .ref (r0 + 3)] (wi μ (r0 + 3) j0 l3) 0 0 K
    refine G_if_eq (tgt := 147) d_X12_readItem_136 rfl (fun c1 => ?_) (fun c1 => ?_)
    ·
      refine G_iconst d_X12_readItem_147 ic_0 ?_
      exact (h c0 c1)
    ·
      refine G_aload_n d_X12_readItem_139 rfl 0 rfl ?_
      refine G_iload_n d_X12_readItem_140 rfl 1 rfl ?_
      refine G_callV (M' := mX12_toldRead) (R' := (Rm (d + 2))) (S := [.int (l4 + 1), .ref (r0 + 3)]) [.int l1] 12 (w12_kd hw12_r0) cok12 rfl ok_X12_toldRead ml_X12_131 pn_X12_toldRead (ru_Rm (by decide)) (Nat.le_of_ble_eq_true rfl) d_X12_readItem_141 ?_
      exact (hc_toldRead c0 c1)
  ·
    refine G_aload_n d_X12_readItem_118 rfl 0 rfl ?_
    refine G_callV (M' := mX12_variableRead) (R' := (Rm (d + 2))) (S := [.int (l4 + 1), .ref (r0 + 3)]) [] 12 (w12_kd hw12_r0) cok12 rfl ok_X12_variableRead ml_X12_118 pn_X12_variableRead (ru_Rm (by decide)) (Nat.le_of_ble_eq_true rfl) d_X12_readItem_119 ?_
    exact (hc_variableRead c0)
theorem b_X12_readItem_122 {X : cX} {d : Nat} {μ : mM} {K : Option Value → mM → Prop} {r0 : Nat} {l1 : Int32} {l2 : Int32} {l3 : Int32} {l4 : Int32} {q0 : Nat} {v1 : Int32} {v2 : Int32} (h : G X (Rm (d + 3)) mX12_readItem 148 [(0, .ref r0), (1, .int l1), (2, .int l2), (3, .int l3), (4, .int l4)] [.int v2, .int v1, .ref q0] μ 0 0 K) : G X (Rm (d + 3)) mX12_readItem 122 [(0, .ref r0), (1, .int l1), (2, .int l2), (3, .int l3), (4, .int l4)] [.int v2, .int v1, .ref q0] μ 0 0 K := by
  refine G_goto (tgt := 148) d_X12_readItem_122 rfl ?_
  exact h
theorem b_X12_readItem_144 {X : cX} {d : Nat} {μ : mM} {K : Option Value → mM → Prop} {r0 : Nat} {l1 : Int32} {l2 : Int32} {l3 : Int32} {l4 : Int32} {q0 : Nat} {v1 : Int32} {v2 : Int32} (h : G X (Rm (d + 3)) mX12_readItem 148 [(0, .ref r0), (1, .int l1), (2, .int l2), (3, .int l3), (4, .int l4)] [.int v2, .int v1, .ref q0] μ 0 0 K) : G X (Rm (d + 3)) mX12_readItem 144 [(0, .ref r0), (1, .int l1), (2, .int l2), (3, .int l3), (4, .int l4)] [.int v2, .int v1, .ref q0] μ 0 0 K := by
  refine G_goto (tgt := 148) d_X12_readItem_144 rfl ?_
  exact h
theorem b_X12_readItem_148 {X : cX} {d : Nat} {μ : mM} {K : Option Value → mM → Prop} {r0 : Nat} {l1 : Int32} {l2 : Int32} {l3 : Int32} {l4 : Int32} {q0 : Nat} {v1 : Int32} {v2 : Int32} {n0 : Nat} {j0 : Nat} (hk_q0 : kd μ q0 = (1, n0)) (hi_j0 : v1 = nI j0) (hb : j0 < n0) (hw12_r0 : WF12 μ r0) (h : (e_X12_in (wi μ q0 j0 v2) l3.toInt64 0 3) = 0 → G X (Rm (d + 3)) mX12_readItem 178 [(0, .ref r0), (1, .int l1), (2, .int l2), (3, .int l3)] [.int 0, .int (l4 + 2), .ref (r0 + 3)] (wi μ q0 j0 v2) 0 0 K) (hc_toldRead : ¬ (e_X12_in (wi μ q0 j0 v2) l3.toInt64 0 3) = 0 → Ct X (Rm (d + 2)) mX12_toldRead [.ref r0, .int l1] (wi μ q0 j0 v2) (fun r μ2 => G X (Rm (d + 3)) mX12_readItem 174 [(0, .ref r0), (1, .int l1), (2, .int l2), (3, .int l3)] (r.toList ++ [.int (l4 + 2), .ref (r0 + 3)]) μ2 0 0 K)) : G X (Rm (d + 3)) mX12_readItem 148 [(0, .ref r0), (1, .int l1), (2, .int l2), (3, .int l3), (4, .int l4)] [.int v2, .int v1, .ref q0] μ 0 0 K := by
  refine G_iast j0 hk_q0 hi_j0 hb d_X12_readItem_148 ?_
  refine G_aload_n d_X12_readItem_149 rfl 0 rfl ?_
  refine G_getR (r := r0 + 3) 12 3 (w12_kd hw12_r0) (w12_f3 hw12_r0) cok12 (by decide) rfl fl_X12_16 d_X12_readItem_150 ?_
  refine G_iload d_X12_readItem_153 4 rfl ?_
  refine G_iconst d_X12_readItem_155 ic_2 ?_
  refine G_iadd d_X12_readItem_156 ?_
  refine G_iload_n d_X12_readItem_157 rfl 3 rfl ?_
  refine G_i2l (v := l3.toInt64) d_X12_readItem_158 rfl ?_
  refine G_lconst (v := 0) d_X12_readItem_159 rfl ?_
  refine G_ldc2 kl_X12_134 d_X12_readItem_160 ?_
  refine G_callS (M' := mX12_in) (R' := (Rm (d + 2))) (S := [.int (l4 + 2), .ref (r0 + 3)]) [.long l3.toInt64, .long 0, .long 3] ok_X12_in ml_X12_61 pn_X12_in (ru_Rm (by decide)) (Nat.le_of_ble_eq_true rfl) d_X12_readItem_163 (s_X12_in (μ := wi μ q0 j0 v2)   ?_)
  show G X (Rm (d + 3)) mX12_readItem 166 [(0, .ref r0), (1, .int l1), (2, .int l2), (3, .int l3), (4, .int l4)] [.int (e_X12_in (wi μ q0 j0 v2) l3.toInt64 0 3), .int (l4 + 2), .ref (r0 + 3)] (wi μ q0 j0 v2) 0 0 K
  refine G_if_eq (tgt := 177) d_X12_readItem_166 rfl (fun c0 => ?_) (fun c0 => ?_)
  ·
    refine G_iconst d_X12_readItem_177 ic_0 ?_
    refine G_sub (L' := [(0, .ref r0), (1, .int l1), (2, .int l2), (3, .int l3)]) [0, 1, 2, 3] rfl ?_
    exact (h c0)
  ·
    refine G_aload_n d_X12_readItem_169 rfl 0 rfl ?_
    refine G_iload_n d_X12_readItem_170 rfl 1 rfl ?_
    refine G_sub (L' := [(0, .ref r0), (1, .int l1), (2, .int l2), (3, .int l3)]) [0, 1, 2, 3] rfl ?_
    refine G_callV (M' := mX12_toldRead) (R' := (Rm (d + 2))) (S := [.int (l4 + 2), .ref (r0 + 3)]) [.int l1] 12 (w12_kd hw12_r0) cok12 rfl ok_X12_toldRead ml_X12_131 pn_X12_toldRead (ru_Rm (by decide)) (Nat.le_of_ble_eq_true rfl) d_X12_readItem_171 ?_
    exact (hc_toldRead c0)
theorem b_X12_readItem_174 {X : cX} {d : Nat} {μ : mM} {K : Option Value → mM → Prop} {r0 : Nat} {l1 : Int32} {l2 : Int32} {l3 : Int32} {q0 : Nat} {v1 : Int32} {v2 : Int32} (h : G X (Rm (d + 3)) mX12_readItem 178 [(0, .ref r0), (1, .int l1), (2, .int l2), (3, .int l3)] [.int v2, .int v1, .ref q0] μ 0 0 K) : G X (Rm (d + 3)) mX12_readItem 174 [(0, .ref r0), (1, .int l1), (2, .int l2), (3, .int l3)] [.int v2, .int v1, .ref q0] μ 0 0 K := by
  refine G_goto (tgt := 178) d_X12_readItem_174 rfl ?_
  exact h
theorem b_X12_readItem_178 {X : cX} {d : Nat} {μ : mM} {K : Option Value → mM → Prop} {r0 : Nat} {i1 : Nat} {l2 : Int32} {l3 : Int32} {q0 : Nat} {v1 : Int32} {v2 : Int32} {n0 : Nat} {j0 : Nat} (hk_q0 : kd μ q0 = (1, n0)) (hi_j0 : v1 = nI j0) (hb : j0 < n0) (hw12_r0 : WF12 μ r0) (hb_2 : (i1 + 2) < 192) (h : (5 : Int32) ≤ l3 → ¬ l3 = (5 : Int32) → G X (Rm (d + 3)) mX12_readItem 214 [(0, .ref r0), (1, .int (nI i1))] [.int (l2 - 1)] (wi (wi μ q0 j0 v2) (r0 + 3) (i1 + 2) ((iv (wi μ q0 j0 v2) (r0 + 3) (i1 + 2)) + 1)) 0 0 K) (h_2 : (5 : Int32) ≤ l3 → l3 = (5 : Int32) → G X (Rm (d + 3)) mX12_readItem 214 [(0, .ref r0), (1, .int (nI i1))] [.int l2] (wi (wi μ q0 j0 v2) (r0 + 3) (i1 + 2) ((iv (wi μ q0 j0 v2) (r0 + 3) (i1 + 2)) + 1)) 0 0 K) (h_3 : ¬ (5 : Int32) ≤ l3 → G X (Rm (d + 3)) mX12_readItem 214 [(0, .ref r0), (1, .int (nI i1))] [.int (l2 + 1)] (wi (wi μ q0 j0 v2) (r0 + 3) (i1 + 2) ((iv (wi μ q0 j0 v2) (r0 + 3) (i1 + 2)) + 1)) 0 0 K) : G X (Rm (d + 3)) mX12_readItem 178 [(0, .ref r0), (1, .int (nI i1)), (2, .int l2), (3, .int l3)] [.int v2, .int v1, .ref q0] μ 0 0 K := by
  refine G_iast j0 hk_q0 hi_j0 hb d_X12_readItem_178 ?_
  refine G_aload_n d_X12_readItem_179 rfl 0 rfl ?_
  refine G_getR (r := r0 + 3) 12 3 (w12_kd hw12_r0) (w12_f3 hw12_r0) cok12 (by decide) rfl fl_X12_16 d_X12_readItem_180 ?_
  refine G_iload_n d_X12_readItem_183 rfl 1 rfl ?_
  refine G_iconst d_X12_readItem_184 ic_2 ?_
  refine G_iadd d_X12_readItem_185 ?_
  refine G_dup2_11 d_X12_readItem_186 rfl rfl ?_
  refine G_iald (i1 + 2) (w12_k3 hw12_r0) (nadd rfl rfl) hb_2 d_X12_readItem_187 ?_
  refine G_iconst d_X12_readItem_188 ic_1 ?_
  refine G_iadd d_X12_readItem_189 ?_
  refine G_iast (i1 + 2) (w12_k3 hw12_r0) (nadd rfl rfl) hb_2 d_X12_readItem_190 ?_
  refine G_iload_n d_X12_readItem_191 rfl 3 rfl ?_
  refine G_iconst d_X12_readItem_192 ic_5 ?_
  refine G_icmp_ge (tgt := 202) d_X12_readItem_193 rfl (fun c0 => ?_) (fun c0 => ?_)
  ·
    refine G_iload_n d_X12_readItem_202 rfl 3 rfl ?_
    refine G_iconst d_X12_readItem_203 ic_5 ?_
    refine G_icmp_ne (tgt := 211) d_X12_readItem_204 rfl (fun c1 => ?_) (fun c1 => ?_)
    ·
      refine G_iload_n d_X12_readItem_211 rfl 2 rfl ?_
      refine G_iconst d_X12_readItem_212 ic_1 ?_
      refine G_isub d_X12_readItem_213 ?_
      refine G_sub (L' := [(0, .ref r0), (1, .int (nI i1))]) [0, 1] rfl ?_
      exact (h c0 c1)
    ·
      refine G_iload_n d_X12_readItem_207 rfl 2 rfl ?_
      refine G_goto (tgt := 214) d_X12_readItem_208 rfl ?_
      refine G_sub (L' := [(0, .ref r0), (1, .int (nI i1))]) [0, 1] rfl ?_
      exact (h_2 c0 c1)
  ·
    refine G_iload_n d_X12_readItem_196 rfl 2 rfl ?_
    refine G_iconst d_X12_readItem_197 ic_1 ?_
    refine G_iadd d_X12_readItem_198 ?_
    refine G_goto (tgt := 214) d_X12_readItem_199 rfl ?_
    refine G_sub (L' := [(0, .ref r0), (1, .int (nI i1))]) [0, 1] rfl ?_
    exact (h_3 c0)
theorem b_X12_readItem_214 {X : cX} {d : Nat} {μ : mM} {K : Option Value → mM → Prop} {r0 : Nat} {i1 : Nat} {v0 : Int32} (hw12_r0 : WF12 μ r0) (hb : (i1 + 3) < 192) (hb_2 : v0 ≤ (iv μ (r0 + 3) (i1 + 3)) → (i1 + 3) < 192) (hK : v0 ≤ (iv μ (r0 + 3) (i1 + 3)) → K (some (.int v0)) (wi μ (r0 + 3) (i1 + 3) (iv μ (r0 + 3) (i1 + 3)))) (hb_3 : ¬ v0 ≤ (iv μ (r0 + 3) (i1 + 3)) → (i1 + 3) < 192) (hK_2 : ¬ v0 ≤ (iv μ (r0 + 3) (i1 + 3)) → K (some (.int v0)) (wi μ (r0 + 3) (i1 + 3) v0)) : G X (Rm (d + 3)) mX12_readItem 214 [(0, .ref r0), (1, .int (nI i1))] [.int v0] μ 0 0 K := by
  refine G_istore (L' := [(5, .int v0), (0, .ref r0), (1, .int (nI i1))]) d_X12_readItem_214 (by decide) rfl ?_
  refine G_aload_n d_X12_readItem_216 rfl 1 rfl ?_
  refine G_getR (r := r0 + 3) 12 3 (w12_kd hw12_r0) (w12_f3 hw12_r0) cok12 (by decide) rfl fl_X12_16 d_X12_readItem_217 ?_
  refine G_iload_n d_X12_readItem_220 rfl 2 rfl ?_
  refine G_iconst d_X12_readItem_221 ic_3 ?_
  refine G_iadd d_X12_readItem_222 ?_
  refine G_iload d_X12_readItem_223 0 rfl ?_
  refine G_aload_n d_X12_readItem_225 rfl 1 rfl ?_
  refine G_getR (r := r0 + 3) 12 3 (w12_kd hw12_r0) (w12_f3 hw12_r0) cok12 (by decide) rfl fl_X12_16 d_X12_readItem_226 ?_
  refine G_iload_n d_X12_readItem_229 rfl 2 rfl ?_
  refine G_iconst d_X12_readItem_230 ic_3 ?_
  refine G_iadd d_X12_readItem_231 ?_
  refine G_iald (i1 + 3) (w12_k3 hw12_r0) (nadd rfl rfl) hb d_X12_readItem_232 ?_
  refine G_icmp_le (tgt := 241) d_X12_readItem_233 rfl (fun c0 => ?_) (fun c0 => ?_)
  ·
    refine G_aload_n d_X12_readItem_241 rfl 1 rfl ?_
    refine G_getR (r := r0 + 3) 12 3 (w12_kd hw12_r0) (w12_f3 hw12_r0) cok12 (by decide) rfl fl_X12_16 d_X12_readItem_242 ?_
    refine G_iload_n d_X12_readItem_245 rfl 2 rfl ?_
    refine G_iconst d_X12_readItem_246 ic_3 ?_
    refine G_iadd d_X12_readItem_247 ?_
    refine G_iald (i1 + 3) (w12_k3 hw12_r0) (nadd rfl rfl) (hb_2 c0) d_X12_readItem_248 ?_
    refine G_iast (i1 + 3) (w12_k3 hw12_r0) (nadd rfl rfl) (hb_2 c0) d_X12_readItem_249 ?_
    refine G_iload d_X12_readItem_250 0 rfl ?_
    exact G_iret rfl rfl rfl d_X12_readItem_252 (hK c0)
  ·
    refine G_iload d_X12_readItem_236 0 rfl ?_
    refine G_goto (tgt := 249) d_X12_readItem_238 rfl ?_
    refine G_iast (i1 + 3) (w12_k3 hw12_r0) (nadd rfl rfl) (hb_3 c0) d_X12_readItem_249 ?_
    refine G_iload d_X12_readItem_250 0 rfl ?_
    exact G_iret rfl rfl rfl d_X12_readItem_252 (hK_2 c0)
theorem d_X12_readAsk_0 : decode cX12_readAsk 0 = .ok (.aload_n 0, 1) := by decide +kernel
theorem d_X12_readAsk_1 : decode cX12_readAsk 1 = .ok (.getfield 136, 3) := by decide +kernel
theorem d_X12_readAsk_4 : decode cX12_readAsk 4 = .ok (.iconst 4, 1) := by decide +kernel
theorem d_X12_readAsk_5 : decode cX12_readAsk 5 = .ok (.if_icmp .ne 9, 3) := by decide +kernel
theorem d_X12_readAsk_8 : decode cX12_readAsk 8 = .ok (.aload_n 0, 1) := by decide +kernel
theorem d_X12_readAsk_9 : decode cX12_readAsk 9 = .ok (.iconst 5, 1) := by decide +kernel
theorem d_X12_readAsk_10 : decode cX12_readAsk 10 = .ok (.invokevirtual 99, 3) := by decide +kernel
theorem d_X12_readAsk_13 : decode cX12_readAsk 13 = .ok (.return_, 1) := by decide +kernel
theorem d_X12_readAsk_14 : decode cX12_readAsk 14 = .ok (.bipush 48, 2) := by decide +kernel
theorem d_X12_readAsk_16 : decode cX12_readAsk 16 = .ok (.aload_n 0, 1) := by decide +kernel
theorem d_X12_readAsk_17 : decode cX12_readAsk 17 = .ok (.getfield 136, 3) := by decide +kernel
theorem d_X12_readAsk_20 : decode cX12_readAsk 20 = .ok (.imul, 1) := by decide +kernel
theorem d_X12_readAsk_21 : decode cX12_readAsk 21 = .ok (.istore_n 1, 1) := by decide +kernel
theorem d_X12_readAsk_22 : decode cX12_readAsk 22 = .ok (.aload_n 0, 1) := by decide +kernel
theorem d_X12_readAsk_23 : decode cX12_readAsk 23 = .ok (.invokevirtual 108, 3) := by decide +kernel
theorem d_X12_readAsk_26 : decode cX12_readAsk 26 = .ok (.aload_n 0, 1) := by decide +kernel
theorem d_X12_readAsk_27 : decode cX12_readAsk 27 = .ok (.iload_n 1, 1) := by decide +kernel
theorem d_X12_readAsk_28 : decode cX12_readAsk 28 = .ok (.invokevirtual 139, 3) := by decide +kernel
theorem d_X12_readAsk_31 : decode cX12_readAsk 31 = .ok (.aload_n 0, 1) := by decide +kernel
theorem d_X12_readAsk_32 : decode cX12_readAsk 32 = .ok (.getfield 69, 3) := by decide +kernel
theorem d_X12_readAsk_35 : decode cX12_readAsk 35 = .ok (.ifCond .ne 16, 3) := by decide +kernel
theorem d_X12_readAsk_38 : decode cX12_readAsk 38 = .ok (.aload_n 0, 1) := by decide +kernel
theorem d_X12_readAsk_39 : decode cX12_readAsk 39 = .ok (.getfield 78, 3) := by decide +kernel
theorem d_X12_readAsk_42 : decode cX12_readAsk 42 = .ok (.iconst 4, 1) := by decide +kernel
theorem d_X12_readAsk_43 : decode cX12_readAsk 43 = .ok (.if_icmp .eq 8, 3) := by decide +kernel
theorem d_X12_readAsk_46 : decode cX12_readAsk 46 = .ok (.aload_n 0, 1) := by decide +kernel
theorem d_X12_readAsk_47 : decode cX12_readAsk 47 = .ok (.iconst 2, 1) := by decide +kernel
theorem d_X12_readAsk_48 : decode cX12_readAsk 48 = .ok (.invokevirtual 99, 3) := by decide +kernel
theorem d_X12_readAsk_51 : decode cX12_readAsk 51 = .ok (.aload_n 0, 1) := by decide +kernel
theorem d_X12_readAsk_52 : decode cX12_readAsk 52 = .ok (.invokevirtual 108, 3) := by decide +kernel
theorem d_X12_readAsk_55 : decode cX12_readAsk 55 = .ok (.aload_n 0, 1) := by decide +kernel
theorem d_X12_readAsk_56 : decode cX12_readAsk 56 = .ok (.iload_n 1, 1) := by decide +kernel
theorem d_X12_readAsk_57 : decode cX12_readAsk 57 = .ok (.iconst 0, 1) := by decide +kernel
theorem d_X12_readAsk_58 : decode cX12_readAsk 58 = .ok (.invokevirtual 142, 3) := by decide +kernel
theorem d_X12_readAsk_61 : decode cX12_readAsk 61 = .ok (.istore_n 2, 1) := by decide +kernel
theorem d_X12_readAsk_62 : decode cX12_readAsk 62 = .ok (.aload_n 0, 1) := by decide +kernel
theorem d_X12_readAsk_63 : decode cX12_readAsk 63 = .ok (.getfield 69, 3) := by decide +kernel
theorem d_X12_readAsk_66 : decode cX12_readAsk 66 = .ok (.ifCond .ne 21, 3) := by decide +kernel
theorem d_X12_readAsk_69 : decode cX12_readAsk 69 = .ok (.aload_n 0, 1) := by decide +kernel
theorem d_X12_readAsk_70 : decode cX12_readAsk 70 = .ok (.getfield 78, 3) := by decide +kernel
theorem d_X12_readAsk_73 : decode cX12_readAsk 73 = .ok (.iconst 1, 1) := by decide +kernel
theorem d_X12_readAsk_74 : decode cX12_readAsk 74 = .ok (.if_icmp .ne 13, 3) := by decide +kernel
theorem d_X12_readAsk_77 : decode cX12_readAsk 77 = .ok (.aload_n 0, 1) := by decide +kernel
theorem d_X12_readAsk_78 : decode cX12_readAsk 78 = .ok (.iload_n 1, 1) := by decide +kernel
theorem d_X12_readAsk_79 : decode cX12_readAsk 79 = .ok (.iload_n 2, 1) := by decide +kernel
theorem d_X12_readAsk_80 : decode cX12_readAsk 80 = .ok (.invokevirtual 142, 3) := by decide +kernel
theorem d_X12_readAsk_83 : decode cX12_readAsk 83 = .ok (.istore_n 2, 1) := by decide +kernel
theorem d_X12_readAsk_84 : decode cX12_readAsk 84 = .ok (.goto (-22), 3) := by decide +kernel
theorem d_X12_readAsk_87 : decode cX12_readAsk 87 = .ok (.aload_n 0, 1) := by decide +kernel
theorem d_X12_readAsk_88 : decode cX12_readAsk 88 = .ok (.getfield 69, 3) := by decide +kernel
theorem d_X12_readAsk_91 : decode cX12_readAsk 91 = .ok (.ifCond .ne 21, 3) := by decide +kernel
theorem d_X12_readAsk_94 : decode cX12_readAsk 94 = .ok (.aload_n 0, 1) := by decide +kernel
theorem d_X12_readAsk_95 : decode cX12_readAsk 95 = .ok (.getfield 78, 3) := by decide +kernel
theorem d_X12_readAsk_98 : decode cX12_readAsk 98 = .ok (.iconst 3, 1) := by decide +kernel
theorem d_X12_readAsk_99 : decode cX12_readAsk 99 = .ok (.if_icmp .ne 13, 3) := by decide +kernel
theorem d_X12_readAsk_102 : decode cX12_readAsk 102 = .ok (.iload_n 2, 1) := by decide +kernel
theorem d_X12_readAsk_103 : decode cX12_readAsk 103 = .ok (.iconst 1, 1) := by decide +kernel
theorem d_X12_readAsk_104 : decode cX12_readAsk 104 = .ok (.if_icmp .eq 8, 3) := by decide +kernel
theorem d_X12_readAsk_107 : decode cX12_readAsk 107 = .ok (.aload_n 0, 1) := by decide +kernel
theorem d_X12_readAsk_108 : decode cX12_readAsk 108 = .ok (.iconst 4, 1) := by decide +kernel
theorem d_X12_readAsk_109 : decode cX12_readAsk 109 = .ok (.invokevirtual 99, 3) := by decide +kernel
theorem d_X12_readAsk_112 : decode cX12_readAsk 112 = .ok (.aload_n 0, 1) := by decide +kernel
theorem d_X12_readAsk_113 : decode cX12_readAsk 113 = .ok (.dup, 1) := by decide +kernel
theorem d_X12_readAsk_114 : decode cX12_readAsk 114 = .ok (.getfield 136, 3) := by decide +kernel
theorem d_X12_readAsk_117 : decode cX12_readAsk 117 = .ok (.iconst 1, 1) := by decide +kernel
theorem d_X12_readAsk_118 : decode cX12_readAsk 118 = .ok (.iadd, 1) := by decide +kernel
theorem d_X12_readAsk_119 : decode cX12_readAsk 119 = .ok (.putfield 136, 3) := by decide +kernel
theorem d_X12_readAsk_122 : decode cX12_readAsk 122 = .ok (.return_, 1) := by decide +kernel
theorem b_X12_readAsk_0 {X : cX} {d : Nat} {μ : mM} {K : Option Value → mM → Prop} {r0 : Nat} (hw12_r0 : WF12 μ r0) (hc_readsOn : ¬ (iv μ r0 4) = (4 : Int32) → Ct X (Rm (d + 3)) mX12_readsOn [.ref r0] μ (fun r μ2 => G X (Rm (d + 4)) mX12_readAsk 26 [(0, .ref r0), (1, .int ((48 : Int32) * (iv μ r0 4)))] (r.toList ++ []) μ2 0 0 K)) (hc_fails : (iv μ r0 4) = (4 : Int32) → Ct X (Rm (d + 3)) mX12_fails [.ref r0, .int 5] μ (fun r μ2 => G X (Rm (d + 4)) mX12_readAsk 13 [] (r.toList ++ []) μ2 0 0 K)) : G X (Rm (d + 4)) mX12_readAsk 0 [(0, .ref r0)] [] μ 0 0 K := by
  refine G_aload_n d_X12_readAsk_0 rfl 0 rfl ?_
  refine G_getI 12 4 (w12_kd hw12_r0) cok12 (by decide) rfl fl_X12_136 d_X12_readAsk_1 ?_
  refine G_iconst d_X12_readAsk_4 ic_4 ?_
  refine G_icmp_ne (tgt := 14) d_X12_readAsk_5 rfl (fun c0 => ?_) (fun c0 => ?_)
  ·
    refine G_bipush d_X12_readAsk_14 bp_48 ?_
    refine G_aload_n d_X12_readAsk_16 rfl 0 rfl ?_
    refine G_getI 12 4 (w12_kd hw12_r0) cok12 (by decide) rfl fl_X12_136 d_X12_readAsk_17 ?_
    refine G_imul d_X12_readAsk_20 ?_
    refine G_istore_n (L' := [(1, .int ((48 : Int32) * (iv μ r0 4))), (0, .ref r0)]) d_X12_readAsk_21 rfl (by decide) rfl ?_
    refine G_aload_n d_X12_readAsk_22 rfl 1 rfl ?_
    refine G_sub (L' := [(0, .ref r0), (1, .int ((48 : Int32) * (iv μ r0 4)))]) [1, 0] rfl ?_
    refine G_callV (M' := mX12_readsOn) (R' := (Rm (d + 3))) (S := []) [] 12 (w12_kd hw12_r0) cok12 rfl ok_X12_readsOn ml_X12_108 pn_X12_readsOn (ru_Rm (by decide)) (Nat.le_of_ble_eq_true rfl) d_X12_readAsk_23 ?_
    exact (hc_readsOn c0)
  ·
    refine G_aload_n d_X12_readAsk_8 rfl 0 rfl ?_
    refine G_iconst d_X12_readAsk_9 ic_5 ?_
    refine G_sub (L' := []) [] rfl ?_
    refine G_callV (M' := mX12_fails) (R' := (Rm (d + 3))) (S := []) [.int 5] 12 (w12_kd hw12_r0) cok12 rfl ok_X12_fails ml_X12_99 pn_X12_fails (ru_Rm (by decide)) (Nat.le_of_ble_eq_true rfl) d_X12_readAsk_10 ?_
    exact (hc_fails c0)
theorem b_X12_readAsk_13 {X : cX} {d : Nat} {μ : mM} {K : Option Value → mM → Prop}  (hK : K none μ) : G X (Rm (d + 4)) mX12_readAsk 13 [] [] μ 0 0 K := by
  exact G_vret rfl rfl rfl d_X12_readAsk_13 hK
theorem b_X12_readAsk_26 {X : cX} {d : Nat} {μ : mM} {K : Option Value → mM → Prop} {r0 : Nat} {l1 : Int32} (hw12_r0 : WF12 μ r0) (hc_readLetters : Ct X (Rm (d + 3)) mX12_readLetters [.ref r0, .int l1] μ (fun r μ2 => G X (Rm (d + 4)) mX12_readAsk 31 [(0, .ref r0), (1, .int l1)] (r.toList ++ []) μ2 0 0 K)) : G X (Rm (d + 4)) mX12_readAsk 26 [(0, .ref r0), (1, .int l1)] [] μ 0 0 K := by
  refine G_aload_n d_X12_readAsk_26 rfl 0 rfl ?_
  refine G_iload_n d_X12_readAsk_27 rfl 1 rfl ?_
  refine G_callV (M' := mX12_readLetters) (R' := (Rm (d + 3))) (S := []) [.int l1] 12 (w12_kd hw12_r0) cok12 rfl ok_X12_readLetters ml_X12_139 pn_X12_readLetters (ru_Rm (by decide)) (Nat.le_of_ble_eq_true rfl) d_X12_readAsk_28 ?_
  exact hc_readLetters
theorem b_X12_readAsk_31 {X : cX} {d : Nat} {μ : mM} {K : Option Value → mM → Prop} {r0 : Nat} {l1 : Int32} (hw12_r0 : WF12 μ r0) (h : ¬ (iv μ r0 8) = 0 → G X (Rm (d + 4)) mX12_readAsk 51 [(0, .ref r0), (1, .int l1)] [] μ 0 0 K) (h_2 : (iv μ r0 8) = 0 → (iv μ r0 12) = (4 : Int32) → G X (Rm (d + 4)) mX12_readAsk 51 [(0, .ref r0), (1, .int l1)] [] μ 0 0 K) (hc_fails : (iv μ r0 8) = 0 → ¬ (iv μ r0 12) = (4 : Int32) → Ct X (Rm (d + 3)) mX12_fails [.ref r0, .int 2] μ (fun r μ2 => G X (Rm (d + 4)) mX12_readAsk 51 [(0, .ref r0), (1, .int l1)] (r.toList ++ []) μ2 0 0 K)) : G X (Rm (d + 4)) mX12_readAsk 31 [(0, .ref r0), (1, .int l1)] [] μ 0 0 K := by
  refine G_aload_n d_X12_readAsk_31 rfl 0 rfl ?_
  refine G_getI 12 8 (w12_kd hw12_r0) cok12 (by decide) rfl fl_X12_69 d_X12_readAsk_32 ?_
  refine G_if_ne (tgt := 51) d_X12_readAsk_35 rfl (fun c0 => ?_) (fun c0 => ?_)
  ·
    exact (h c0)
  ·
    refine G_aload_n d_X12_readAsk_38 rfl 0 rfl ?_
    refine G_getI 12 12 (w12_kd hw12_r0) cok12 (by decide) rfl fl_X12_78 d_X12_readAsk_39 ?_
    refine G_iconst d_X12_readAsk_42 ic_4 ?_
    refine G_icmp_eq (tgt := 51) d_X12_readAsk_43 rfl (fun c1 => ?_) (fun c1 => ?_)
    ·
      exact (h_2 c0 c1)
    ·
      refine G_aload_n d_X12_readAsk_46 rfl 0 rfl ?_
      refine G_iconst d_X12_readAsk_47 ic_2 ?_
      refine G_callV (M' := mX12_fails) (R' := (Rm (d + 3))) (S := []) [.int 2] 12 (w12_kd hw12_r0) cok12 rfl ok_X12_fails ml_X12_99 pn_X12_fails (ru_Rm (by decide)) (Nat.le_of_ble_eq_true rfl) d_X12_readAsk_48 ?_
      exact (hc_fails c0 c1)
theorem b_X12_readAsk_51 {X : cX} {d : Nat} {μ : mM} {K : Option Value → mM → Prop} {r0 : Nat} {l1 : Int32} (hw12_r0 : WF12 μ r0) (hc_readsOn : Ct X (Rm (d + 3)) mX12_readsOn [.ref r0] μ (fun r μ2 => G X (Rm (d + 4)) mX12_readAsk 55 [(0, .ref r0), (1, .int l1)] (r.toList ++ []) μ2 0 0 K)) : G X (Rm (d + 4)) mX12_readAsk 51 [(0, .ref r0), (1, .int l1)] [] μ 0 0 K := by
  refine G_aload_n d_X12_readAsk_51 rfl 0 rfl ?_
  refine G_callV (M' := mX12_readsOn) (R' := (Rm (d + 3))) (S := []) [] 12 (w12_kd hw12_r0) cok12 rfl ok_X12_readsOn ml_X12_108 pn_X12_readsOn (ru_Rm (by decide)) (Nat.le_of_ble_eq_true rfl) d_X12_readAsk_52 ?_
  exact hc_readsOn
theorem b_X12_readAsk_55 {X : cX} {d : Nat} {μ : mM} {K : Option Value → mM → Prop} {r0 : Nat} {l1 : Int32} (hw12_r0 : WF12 μ r0) (hc_readItem : Ct X (Rm (d + 3)) mX12_readItem [.ref r0, .int l1, .int 0] μ (fun r μ2 => G X (Rm (d + 4)) mX12_readAsk 61 [(0, .ref r0), (1, .int l1)] (r.toList ++ []) μ2 0 0 K)) : G X (Rm (d + 4)) mX12_readAsk 55 [(0, .ref r0), (1, .int l1)] [] μ 0 0 K := by
  refine G_aload_n d_X12_readAsk_55 rfl 0 rfl ?_
  refine G_iload_n d_X12_readAsk_56 rfl 1 rfl ?_
  refine G_iconst d_X12_readAsk_57 ic_0 ?_
  refine G_callV (M' := mX12_readItem) (R' := (Rm (d + 3))) (S := []) [.int l1, .int 0] 12 (w12_kd hw12_r0) cok12 rfl ok_X12_readItem ml_X12_142 pn_X12_readItem (ru_Rm (by decide)) (Nat.le_of_ble_eq_true rfl) d_X12_readAsk_58 ?_
  exact hc_readItem
theorem b_X12_readAsk_61 {X : cX} {d : Nat} {μ : mM} {K : Option Value → mM → Prop} {r0 : Nat} {l1 : Int32} {v0 : Int32} (h : G X (Rm (d + 4)) mX12_readAsk 62 [(0, .ref r0), (1, .int l1), (2, .int v0)] [] μ 0 0 K) : G X (Rm (d + 4)) mX12_readAsk 61 [(0, .ref r0), (1, .int l1)] [.int v0] μ 0 0 K := by
  refine G_istore_n (L' := [(2, .int v0), (0, .ref r0), (1, .int l1)]) d_X12_readAsk_61 rfl (by decide) rfl ?_
  refine G_sub (L' := [(0, .ref r0), (1, .int l1), (2, .int v0)]) [1, 2, 0] rfl ?_
  exact h
theorem b_X12_readAsk_62 {X : cX} {d : Nat} {μ : mM} {K : Option Value → mM → Prop} {r0 : Nat} {l1 : Int32} {l2 : Int32} (hw12_r0 : WF12 μ r0) (h : ¬ (iv μ r0 8) = 0 → G X (Rm (d + 4)) mX12_readAsk 87 [(0, .ref r0), (2, .int l2)] [] μ 0 0 K) (h_2 : (iv μ r0 8) = 0 → ¬ (iv μ r0 12) = (1 : Int32) → G X (Rm (d + 4)) mX12_readAsk 87 [(0, .ref r0), (2, .int l2)] [] μ 0 0 K) (hc_readItem : (iv μ r0 8) = 0 → (iv μ r0 12) = (1 : Int32) → Ct X (Rm (d + 3)) mX12_readItem [.ref r0, .int l1, .int l2] μ (fun r μ2 => G X (Rm (d + 4)) mX12_readAsk 83 [(0, .ref r0), (1, .int l1)] (r.toList ++ []) μ2 0 0 K)) : G X (Rm (d + 4)) mX12_readAsk 62 [(0, .ref r0), (1, .int l1), (2, .int l2)] [] μ 0 0 K := by
  refine G_aload_n d_X12_readAsk_62 rfl 0 rfl ?_
  refine G_getI 12 8 (w12_kd hw12_r0) cok12 (by decide) rfl fl_X12_69 d_X12_readAsk_63 ?_
  refine G_if_ne (tgt := 87) d_X12_readAsk_66 rfl (fun c0 => ?_) (fun c0 => ?_)
  ·
    refine G_sub (L' := [(0, .ref r0), (2, .int l2)]) [0, 2] rfl ?_
    exact (h c0)
  ·
    refine G_aload_n d_X12_readAsk_69 rfl 0 rfl ?_
    refine G_getI 12 12 (w12_kd hw12_r0) cok12 (by decide) rfl fl_X12_78 d_X12_readAsk_70 ?_
    refine G_iconst d_X12_readAsk_73 ic_1 ?_
    refine G_icmp_ne (tgt := 87) d_X12_readAsk_74 rfl (fun c1 => ?_) (fun c1 => ?_)
    ·
      refine G_sub (L' := [(0, .ref r0), (2, .int l2)]) [0, 2] rfl ?_
      exact (h_2 c0 c1)
    ·
      refine G_aload_n d_X12_readAsk_77 rfl 0 rfl ?_
      refine G_iload_n d_X12_readAsk_78 rfl 1 rfl ?_
      refine G_iload_n d_X12_readAsk_79 rfl 2 rfl ?_
      refine G_sub (L' := [(0, .ref r0), (1, .int l1)]) [0, 1] rfl ?_
      refine G_callV (M' := mX12_readItem) (R' := (Rm (d + 3))) (S := []) [.int l1, .int l2] 12 (w12_kd hw12_r0) cok12 rfl ok_X12_readItem ml_X12_142 pn_X12_readItem (ru_Rm (by decide)) (Nat.le_of_ble_eq_true rfl) d_X12_readAsk_80 ?_
      exact (hc_readItem c0 c1)
theorem b_X12_readAsk_83 {X : cX} {d : Nat} {μ : mM} {K : Option Value → mM → Prop} {r0 : Nat} {l1 : Int32} {v0 : Int32} (h : G X (Rm (d + 4)) mX12_readAsk 62 [(0, .ref r0), (1, .int l1), (2, .int v0)] [] μ 0 0 K) : G X (Rm (d + 4)) mX12_readAsk 83 [(0, .ref r0), (1, .int l1)] [.int v0] μ 0 0 K := by
  refine G_istore_n (L' := [(2, .int v0), (0, .ref r0), (1, .int l1)]) d_X12_readAsk_83 rfl (by decide) rfl ?_
  refine G_goto (tgt := 62) d_X12_readAsk_84 rfl ?_
  refine G_sub (L' := [(0, .ref r0), (1, .int l1), (2, .int v0)]) [1, 2, 0] rfl ?_
  exact h
theorem b_X12_readAsk_87 {X : cX} {d : Nat} {μ : mM} {K : Option Value → mM → Prop} {r0 : Nat} {l2 : Int32} (hw12_r0 : WF12 μ r0) (h : ¬ (iv μ r0 8) = 0 → G X (Rm (d + 4)) mX12_readAsk 112 [(0, .ref r0)] [] μ 0 0 K) (h_2 : (iv μ r0 8) = 0 → ¬ (iv μ r0 12) = (3 : Int32) → G X (Rm (d + 4)) mX12_readAsk 112 [(0, .ref r0)] [] μ 0 0 K) (h_3 : (iv μ r0 8) = 0 → (iv μ r0 12) = (3 : Int32) → l2 = (1 : Int32) → G X (Rm (d + 4)) mX12_readAsk 112 [(0, .ref r0)] [] μ 0 0 K) (hc_fails : (iv μ r0 8) = 0 → (iv μ r0 12) = (3 : Int32) → ¬ l2 = (1 : Int32) → Ct X (Rm (d + 3)) mX12_fails [.ref r0, .int 4] μ (fun r μ2 => G X (Rm (d + 4)) mX12_readAsk 112 [(0, .ref r0)] (r.toList ++ []) μ2 0 0 K)) : G X (Rm (d + 4)) mX12_readAsk 87 [(0, .ref r0), (2, .int l2)] [] μ 0 0 K := by
  refine G_aload_n d_X12_readAsk_87 rfl 0 rfl ?_
  refine G_getI 12 8 (w12_kd hw12_r0) cok12 (by decide) rfl fl_X12_69 d_X12_readAsk_88 ?_
  refine G_if_ne (tgt := 112) d_X12_readAsk_91 rfl (fun c0 => ?_) (fun c0 => ?_)
  ·
    refine G_sub (L' := [(0, .ref r0)]) [0] rfl ?_
    exact (h c0)
  ·
    refine G_aload_n d_X12_readAsk_94 rfl 0 rfl ?_
    refine G_getI 12 12 (w12_kd hw12_r0) cok12 (by decide) rfl fl_X12_78 d_X12_readAsk_95 ?_
    refine G_iconst d_X12_readAsk_98 ic_3 ?_
    refine G_icmp_ne (tgt := 112) d_X12_readAsk_99 rfl (fun c1 => ?_) (fun c1 => ?_)
    ·
      refine G_sub (L' := [(0, .ref r0)]) [0] rfl ?_
      exact (h_2 c0 c1)
    ·
      refine G_iload_n d_X12_readAsk_102 rfl 1 rfl ?_
      refine G_iconst d_X12_readAsk_103 ic_1 ?_
      refine G_icmp_eq (tgt := 112) d_X12_readAsk_104 rfl (fun c2 => ?_) (fun c2 => ?_)
      ·
        refine G_sub (L' := [(0, .ref r0)]) [0] rfl ?_
        exact (h_3 c0 c1 c2)
      ·
        refine G_aload_n d_X12_readAsk_107 rfl 0 rfl ?_
        refine G_iconst d_X12_readAsk_108 ic_4 ?_
        refine G_sub (L' := [(0, .ref r0)]) [0] rfl ?_
        refine G_callV (M' := mX12_fails) (R' := (Rm (d + 3))) (S := []) [.int 4] 12 (w12_kd hw12_r0) cok12 rfl ok_X12_fails ml_X12_99 pn_X12_fails (ru_Rm (by decide)) (Nat.le_of_ble_eq_true rfl) d_X12_readAsk_109 ?_
        exact (hc_fails c0 c1 c2)
theorem b_X12_readAsk_112 {X : cX} {d : Nat} {μ : mM} {K : Option Value → mM → Prop} {r0 : Nat} (hw12_r0 : WF12 μ r0) (hK : K none (wi μ r0 4 ((iv μ r0 4) + 1))) : G X (Rm (d + 4)) mX12_readAsk 112 [(0, .ref r0)] [] μ 0 0 K := by
  refine G_aload_n d_X12_readAsk_112 rfl 0 rfl ?_
  refine G_dup d_X12_readAsk_113 rfl ?_
  refine G_getI 12 4 (w12_kd hw12_r0) cok12 (by decide) rfl fl_X12_136 d_X12_readAsk_114 ?_
  refine G_iconst d_X12_readAsk_117 ic_1 ?_
  refine G_iadd d_X12_readAsk_118 ?_
  refine G_putI 12 4 (w12_kd hw12_r0) rfl rfl cok12 (by decide) rfl (Or.inl rfl) fl_X12_136 d_X12_readAsk_119 ?_
  exact G_vret rfl rfl rfl d_X12_readAsk_122 hK
theorem d_X12_readLine_0 : decode cX12_readLine 0 = .ok (.aload_n 0, 1) := by decide +kernel
theorem d_X12_readLine_1 : decode cX12_readLine 1 = .ok (.invokevirtual 114, 3) := by decide +kernel
theorem d_X12_readLine_4 : decode cX12_readLine 4 = .ok (.istore_n 1, 1) := by decide +kernel
theorem d_X12_readLine_5 : decode cX12_readLine 5 = .ok (.iload_n 1, 1) := by decide +kernel
theorem d_X12_readLine_6 : decode cX12_readLine 6 = .ok (.bipush 8, 2) := by decide +kernel
theorem d_X12_readLine_8 : decode cX12_readLine 8 = .ok (.if_icmp .eq 8, 3) := by decide +kernel
theorem d_X12_readLine_11 : decode cX12_readLine 11 = .ok (.iload_n 1, 1) := by decide +kernel
theorem d_X12_readLine_12 : decode cX12_readLine 12 = .ok (.iconst 4, 1) := by decide +kernel
theorem d_X12_readLine_13 : decode cX12_readLine 13 = .ok (.if_icmp .ne 20, 3) := by decide +kernel
theorem d_X12_readLine_16 : decode cX12_readLine 16 = .ok (.aload_n 0, 1) := by decide +kernel
theorem d_X12_readLine_17 : decode cX12_readLine 17 = .ok (.iload_n 1, 1) := by decide +kernel
theorem d_X12_readLine_18 : decode cX12_readLine 18 = .ok (.iconst 4, 1) := by decide +kernel
theorem d_X12_readLine_19 : decode cX12_readLine 19 = .ok (.if_icmp .ne 7, 3) := by decide +kernel
theorem d_X12_readLine_22 : decode cX12_readLine 22 = .ok (.iconst 1, 1) := by decide +kernel
theorem d_X12_readLine_23 : decode cX12_readLine 23 = .ok (.goto 4, 3) := by decide +kernel
theorem d_X12_readLine_26 : decode cX12_readLine 26 = .ok (.iconst 0, 1) := by decide +kernel
theorem d_X12_readLine_27 : decode cX12_readLine 27 = .ok (.invokevirtual 146, 3) := by decide +kernel
theorem d_X12_readLine_30 : decode cX12_readLine 30 = .ok (.goto 46, 3) := by decide +kernel
theorem d_X12_readLine_33 : decode cX12_readLine 33 = .ok (.iload_n 1, 1) := by decide +kernel
theorem d_X12_readLine_34 : decode cX12_readLine 34 = .ok (.ifCond .eq 8, 3) := by decide +kernel
theorem d_X12_readLine_37 : decode cX12_readLine 37 = .ok (.iload_n 1, 1) := by decide +kernel
theorem d_X12_readLine_38 : decode cX12_readLine 38 = .ok (.iconst 2, 1) := by decide +kernel
theorem d_X12_readLine_39 : decode cX12_readLine 39 = .ok (.if_icmp .ne 19, 3) := by decide +kernel
theorem d_X12_readLine_42 : decode cX12_readLine 42 = .ok (.aload_n 0, 1) := by decide +kernel
theorem d_X12_readLine_43 : decode cX12_readLine 43 = .ok (.iload_n 1, 1) := by decide +kernel
theorem d_X12_readLine_44 : decode cX12_readLine 44 = .ok (.ifCond .ne 7, 3) := by decide +kernel
theorem d_X12_readLine_47 : decode cX12_readLine 47 = .ok (.iconst 1, 1) := by decide +kernel
theorem d_X12_readLine_48 : decode cX12_readLine 48 = .ok (.goto 4, 3) := by decide +kernel
theorem d_X12_readLine_51 : decode cX12_readLine 51 = .ok (.iconst 0, 1) := by decide +kernel
theorem d_X12_readLine_52 : decode cX12_readLine 52 = .ok (.invokevirtual 149, 3) := by decide +kernel
theorem d_X12_readLine_55 : decode cX12_readLine 55 = .ok (.goto 21, 3) := by decide +kernel
theorem d_X12_readLine_58 : decode cX12_readLine 58 = .ok (.iload_n 1, 1) := by decide +kernel
theorem d_X12_readLine_59 : decode cX12_readLine 59 = .ok (.bipush 9, 2) := by decide +kernel
theorem d_X12_readLine_61 : decode cX12_readLine 61 = .ok (.if_icmp .ne 10, 3) := by decide +kernel
theorem d_X12_readLine_64 : decode cX12_readLine 64 = .ok (.aload_n 0, 1) := by decide +kernel
theorem d_X12_readLine_65 : decode cX12_readLine 65 = .ok (.invokevirtual 153, 3) := by decide +kernel
theorem d_X12_readLine_68 : decode cX12_readLine 68 = .ok (.goto 8, 3) := by decide +kernel
theorem d_X12_readLine_71 : decode cX12_readLine 71 = .ok (.aload_n 0, 1) := by decide +kernel
theorem d_X12_readLine_72 : decode cX12_readLine 72 = .ok (.iconst 2, 1) := by decide +kernel
theorem d_X12_readLine_73 : decode cX12_readLine 73 = .ok (.invokevirtual 99, 3) := by decide +kernel
theorem d_X12_readLine_76 : decode cX12_readLine 76 = .ok (.aload_n 0, 1) := by decide +kernel
theorem d_X12_readLine_77 : decode cX12_readLine 77 = .ok (.getfield 69, 3) := by decide +kernel
theorem d_X12_readLine_80 : decode cX12_readLine 80 = .ok (.ifCond .ne 16, 3) := by decide +kernel
theorem d_X12_readLine_83 : decode cX12_readLine 83 = .ok (.aload_n 0, 1) := by decide +kernel
theorem d_X12_readLine_84 : decode cX12_readLine 84 = .ok (.getfield 78, 3) := by decide +kernel
theorem d_X12_readLine_87 : decode cX12_readLine 87 = .ok (.iconst 3, 1) := by decide +kernel
theorem d_X12_readLine_88 : decode cX12_readLine 88 = .ok (.if_icmp .eq 8, 3) := by decide +kernel
theorem d_X12_readLine_91 : decode cX12_readLine 91 = .ok (.aload_n 0, 1) := by decide +kernel
theorem d_X12_readLine_92 : decode cX12_readLine 92 = .ok (.iconst 2, 1) := by decide +kernel
theorem d_X12_readLine_93 : decode cX12_readLine 93 = .ok (.invokevirtual 99, 3) := by decide +kernel
theorem d_X12_readLine_96 : decode cX12_readLine 96 = .ok (.aload_n 0, 1) := by decide +kernel
theorem d_X12_readLine_97 : decode cX12_readLine 97 = .ok (.invokevirtual 108, 3) := by decide +kernel
theorem d_X12_readLine_100 : decode cX12_readLine 100 = .ok (.return_, 1) := by decide +kernel
theorem b_X12_readLine_0 {X : cX} {d : Nat} {μ : mM} {K : Option Value → mM → Prop} {r0 : Nat} (hw12_r0 : WF12 μ r0) (hc_nameHere : Ct X (Rm (d + 4)) mX12_nameHere [.ref r0] μ (fun r μ2 => G X (Rm (d + 5)) mX12_readLine 4 [(0, .ref r0)] (r.toList ++ []) μ2 0 0 K)) : G X (Rm (d + 5)) mX12_readLine 0 [(0, .ref r0)] [] μ 0 0 K := by
  refine G_aload_n d_X12_readLine_0 rfl 0 rfl ?_
  refine G_callV (M' := mX12_nameHere) (R' := (Rm (d + 4))) (S := []) [] 12 (w12_kd hw12_r0) cok12 rfl ok_X12_nameHere ml_X12_114 pn_X12_nameHere (ru_Rm (by decide)) (Nat.le_of_ble_eq_true rfl) d_X12_readLine_1 ?_
  exact hc_nameHere
theorem b_X12_readLine_4 {X : cX} {d : Nat} {μ : mM} {K : Option Value → mM → Prop} {r0 : Nat} {v0 : Int32} (h : v0 = (8 : Int32) → G X (Rm (d + 5)) mX12_readLine 16 [(0, .ref r0), (1, .int v0)] [] μ 0 0 K) (h_2 : ¬ v0 = (8 : Int32) → ¬ v0 = (4 : Int32) → v0 = 0 → G X (Rm (d + 5)) mX12_readLine 42 [(0, .ref r0), (1, .int v0)] [] μ 0 0 K) (hw12_r0 : WF12 μ r0) (hc_fails : ¬ v0 = (8 : Int32) → ¬ v0 = (4 : Int32) → ¬ v0 = 0 → ¬ v0 = (2 : Int32) → ¬ v0 = (9 : Int32) → Ct X (Rm (d + 4)) mX12_fails [.ref r0, .int 2] μ (fun r μ2 => G X (Rm (d + 5)) mX12_readLine 76 [(0, .ref r0)] (r.toList ++ []) μ2 0 0 K)) (hc_readAsk : ¬ v0 = (8 : Int32) → ¬ v0 = (4 : Int32) → ¬ v0 = 0 → ¬ v0 = (2 : Int32) → v0 = (9 : Int32) → Ct X (Rm (d + 4)) mX12_readAsk [.ref r0] μ (fun r μ2 => G X (Rm (d + 5)) mX12_readLine 68 [(0, .ref r0)] (r.toList ++ []) μ2 0 0 K)) (h_3 : ¬ v0 = (8 : Int32) → ¬ v0 = (4 : Int32) → ¬ v0 = 0 → v0 = (2 : Int32) → G X (Rm (d + 5)) mX12_readLine 42 [(0, .ref r0), (1, .int v0)] [] μ 0 0 K) (h_4 : ¬ v0 = (8 : Int32) → v0 = (4 : Int32) → G X (Rm (d + 5)) mX12_readLine 16 [(0, .ref r0), (1, .int v0)] [] μ 0 0 K) : G X (Rm (d + 5)) mX12_readLine 4 [(0, .ref r0)] [.int v0] μ 0 0 K := by
  refine G_istore_n (L' := [(1, .int v0), (0, .ref r0)]) d_X12_readLine_4 rfl (by decide) rfl ?_
  refine G_iload_n d_X12_readLine_5 rfl 0 rfl ?_
  refine G_bipush d_X12_readLine_6 bp_8 ?_
  refine G_icmp_eq (tgt := 16) d_X12_readLine_8 rfl (fun c0 => ?_) (fun c0 => ?_)
  ·
    refine G_sub (L' := [(0, .ref r0), (1, .int v0)]) [1, 0] rfl ?_
    exact (h c0)
  ·
    refine G_iload_n d_X12_readLine_11 rfl 0 rfl ?_
    refine G_iconst d_X12_readLine_12 ic_4 ?_
    refine G_icmp_ne (tgt := 33) d_X12_readLine_13 rfl (fun c1 => ?_) (fun c1 => ?_)
    ·
      refine G_iload_n d_X12_readLine_33 rfl 0 rfl ?_
      refine G_if_eq (tgt := 42) d_X12_readLine_34 rfl (fun c2 => ?_) (fun c2 => ?_)
      ·
        refine G_sub (L' := [(0, .ref r0), (1, .int v0)]) [1, 0] rfl ?_
        exact (h_2 c0 c1 c2)
      ·
        refine G_iload_n d_X12_readLine_37 rfl 0 rfl ?_
        refine G_iconst d_X12_readLine_38 ic_2 ?_
        refine G_icmp_ne (tgt := 58) d_X12_readLine_39 rfl (fun c3 => ?_) (fun c3 => ?_)
        ·
          refine G_iload_n d_X12_readLine_58 rfl 0 rfl ?_
          refine G_bipush d_X12_readLine_59 bp_9 ?_
          refine G_icmp_ne (tgt := 71) d_X12_readLine_61 rfl (fun c4 => ?_) (fun c4 => ?_)
          ·
            refine G_aload_n d_X12_readLine_71 rfl 1 rfl ?_
            refine G_iconst d_X12_readLine_72 ic_2 ?_
            refine G_sub (L' := [(0, .ref r0)]) [1] rfl ?_
            refine G_callV (M' := mX12_fails) (R' := (Rm (d + 4))) (S := []) [.int 2] 12 (w12_kd hw12_r0) cok12 rfl ok_X12_fails ml_X12_99 pn_X12_fails (ru_Rm (by decide)) (Nat.le_of_ble_eq_true rfl) d_X12_readLine_73 ?_
            exact (hc_fails c0 c1 c2 c3 c4)
          ·
            refine G_aload_n d_X12_readLine_64 rfl 1 rfl ?_
            refine G_sub (L' := [(0, .ref r0)]) [1] rfl ?_
            refine G_callV (M' := mX12_readAsk) (R' := (Rm (d + 4))) (S := []) [] 12 (w12_kd hw12_r0) cok12 rfl ok_X12_readAsk ml_X12_153 pn_X12_readAsk (ru_Rm (by decide)) (Nat.le_of_ble_eq_true rfl) d_X12_readLine_65 ?_
            exact (hc_readAsk c0 c1 c2 c3 c4)
        ·
          refine G_sub (L' := [(0, .ref r0), (1, .int v0)]) [1, 0] rfl ?_
          exact (h_3 c0 c1 c2 c3)
    ·
      refine G_sub (L' := [(0, .ref r0), (1, .int v0)]) [1, 0] rfl ?_
      exact (h_4 c0 c1)
theorem b_X12_readLine_16 {X : cX} {d : Nat} {μ : mM} {K : Option Value → mM → Prop} {r0 : Nat} {l1 : Int32} (h : ¬ l1 = (4 : Int32) → G X (Rm (d + 5)) mX12_readLine 27 [(0, .ref r0)] [.int 0, .ref r0] μ 0 0 K) (h_2 : l1 = (4 : Int32) → G X (Rm (d + 5)) mX12_readLine 27 [(0, .ref r0)] [.int 1, .ref r0] μ 0 0 K) : G X (Rm (d + 5)) mX12_readLine 16 [(0, .ref r0), (1, .int l1)] [] μ 0 0 K := by
  refine G_aload_n d_X12_readLine_16 rfl 0 rfl ?_
  refine G_iload_n d_X12_readLine_17 rfl 1 rfl ?_
  refine G_iconst d_X12_readLine_18 ic_4 ?_
  refine G_icmp_ne (tgt := 26) d_X12_readLine_19 rfl (fun c0 => ?_) (fun c0 => ?_)
  ·
    refine G_iconst d_X12_readLine_26 ic_0 ?_
    refine G_sub (L' := [(0, .ref r0)]) [0] rfl ?_
    exact (h c0)
  ·
    refine G_iconst d_X12_readLine_22 ic_1 ?_
    refine G_goto (tgt := 27) d_X12_readLine_23 rfl ?_
    refine G_sub (L' := [(0, .ref r0)]) [0] rfl ?_
    exact (h_2 c0)
theorem b_X12_readLine_27 {X : cX} {d : Nat} {μ : mM} {K : Option Value → mM → Prop} {r0 : Nat} {q0 : Nat} {v1 : Int32} (hw12_q0 : WF12 μ q0) (hc_readNode : Ct X (Rm (d + 4)) mX12_readNode [.ref q0, .int v1] μ (fun r μ2 => G X (Rm (d + 5)) mX12_readLine 30 [(0, .ref r0)] (r.toList ++ []) μ2 0 0 K)) : G X (Rm (d + 5)) mX12_readLine 27 [(0, .ref r0)] [.int v1, .ref q0] μ 0 0 K := by
  refine G_callV (M' := mX12_readNode) (R' := (Rm (d + 4))) (S := []) [.int v1] 12 (w12_kd hw12_q0) cok12 rfl ok_X12_readNode ml_X12_146 pn_X12_readNode (ru_Rm (by decide)) (Nat.le_of_ble_eq_true rfl) d_X12_readLine_27 ?_
  exact hc_readNode
theorem b_X12_readLine_30 {X : cX} {d : Nat} {μ : mM} {K : Option Value → mM → Prop} {r0 : Nat} (h : G X (Rm (d + 5)) mX12_readLine 76 [(0, .ref r0)] [] μ 0 0 K) : G X (Rm (d + 5)) mX12_readLine 30 [(0, .ref r0)] [] μ 0 0 K := by
  refine G_goto (tgt := 76) d_X12_readLine_30 rfl ?_
  exact h
theorem b_X12_readLine_42 {X : cX} {d : Nat} {μ : mM} {K : Option Value → mM → Prop} {r0 : Nat} {l1 : Int32} (h : ¬ l1 = 0 → G X (Rm (d + 5)) mX12_readLine 52 [(0, .ref r0)] [.int 0, .ref r0] μ 0 0 K) (h_2 : l1 = 0 → G X (Rm (d + 5)) mX12_readLine 52 [(0, .ref r0)] [.int 1, .ref r0] μ 0 0 K) : G X (Rm (d + 5)) mX12_readLine 42 [(0, .ref r0), (1, .int l1)] [] μ 0 0 K := by
  refine G_aload_n d_X12_readLine_42 rfl 0 rfl ?_
  refine G_iload_n d_X12_readLine_43 rfl 1 rfl ?_
  refine G_if_ne (tgt := 51) d_X12_readLine_44 rfl (fun c0 => ?_) (fun c0 => ?_)
  ·
    refine G_iconst d_X12_readLine_51 ic_0 ?_
    refine G_sub (L' := [(0, .ref r0)]) [0] rfl ?_
    exact (h c0)
  ·
    refine G_iconst d_X12_readLine_47 ic_1 ?_
    refine G_goto (tgt := 52) d_X12_readLine_48 rfl ?_
    refine G_sub (L' := [(0, .ref r0)]) [0] rfl ?_
    exact (h_2 c0)
theorem b_X12_readLine_52 {X : cX} {d : Nat} {μ : mM} {K : Option Value → mM → Prop} {r0 : Nat} {q0 : Nat} {v1 : Int32} (hw12_q0 : WF12 μ q0) (hc_readTold : Ct X (Rm (d + 4)) mX12_readTold [.ref q0, .int v1] μ (fun r μ2 => G X (Rm (d + 5)) mX12_readLine 55 [(0, .ref r0)] (r.toList ++ []) μ2 0 0 K)) : G X (Rm (d + 5)) mX12_readLine 52 [(0, .ref r0)] [.int v1, .ref q0] μ 0 0 K := by
  refine G_callV (M' := mX12_readTold) (R' := (Rm (d + 4))) (S := []) [.int v1] 12 (w12_kd hw12_q0) cok12 rfl ok_X12_readTold ml_X12_149 pn_X12_readTold (ru_Rm (by decide)) (Nat.le_of_ble_eq_true rfl) d_X12_readLine_52 ?_
  exact hc_readTold
theorem b_X12_readLine_55 {X : cX} {d : Nat} {μ : mM} {K : Option Value → mM → Prop} {r0 : Nat} (h : G X (Rm (d + 5)) mX12_readLine 76 [(0, .ref r0)] [] μ 0 0 K) : G X (Rm (d + 5)) mX12_readLine 55 [(0, .ref r0)] [] μ 0 0 K := by
  refine G_goto (tgt := 76) d_X12_readLine_55 rfl ?_
  exact h
theorem b_X12_readLine_68 {X : cX} {d : Nat} {μ : mM} {K : Option Value → mM → Prop} {r0 : Nat} (h : G X (Rm (d + 5)) mX12_readLine 76 [(0, .ref r0)] [] μ 0 0 K) : G X (Rm (d + 5)) mX12_readLine 68 [(0, .ref r0)] [] μ 0 0 K := by
  refine G_goto (tgt := 76) d_X12_readLine_68 rfl ?_
  exact h
theorem b_X12_readLine_76 {X : cX} {d : Nat} {μ : mM} {K : Option Value → mM → Prop} {r0 : Nat} (hw12_r0 : WF12 μ r0) (h : ¬ (iv μ r0 8) = 0 → G X (Rm (d + 5)) mX12_readLine 96 [(0, .ref r0)] [] μ 0 0 K) (h_2 : (iv μ r0 8) = 0 → (iv μ r0 12) = (3 : Int32) → G X (Rm (d + 5)) mX12_readLine 96 [(0, .ref r0)] [] μ 0 0 K) (hc_fails : (iv μ r0 8) = 0 → ¬ (iv μ r0 12) = (3 : Int32) → Ct X (Rm (d + 4)) mX12_fails [.ref r0, .int 2] μ (fun r μ2 => G X (Rm (d + 5)) mX12_readLine 96 [(0, .ref r0)] (r.toList ++ []) μ2 0 0 K)) : G X (Rm (d + 5)) mX12_readLine 76 [(0, .ref r0)] [] μ 0 0 K := by
  refine G_aload_n d_X12_readLine_76 rfl 0 rfl ?_
  refine G_getI 12 8 (w12_kd hw12_r0) cok12 (by decide) rfl fl_X12_69 d_X12_readLine_77 ?_
  refine G_if_ne (tgt := 96) d_X12_readLine_80 rfl (fun c0 => ?_) (fun c0 => ?_)
  ·
    exact (h c0)
  ·
    refine G_aload_n d_X12_readLine_83 rfl 0 rfl ?_
    refine G_getI 12 12 (w12_kd hw12_r0) cok12 (by decide) rfl fl_X12_78 d_X12_readLine_84 ?_
    refine G_iconst d_X12_readLine_87 ic_3 ?_
    refine G_icmp_eq (tgt := 96) d_X12_readLine_88 rfl (fun c1 => ?_) (fun c1 => ?_)
    ·
      exact (h_2 c0 c1)
    ·
      refine G_aload_n d_X12_readLine_91 rfl 0 rfl ?_
      refine G_iconst d_X12_readLine_92 ic_2 ?_
      refine G_callV (M' := mX12_fails) (R' := (Rm (d + 4))) (S := []) [.int 2] 12 (w12_kd hw12_r0) cok12 rfl ok_X12_fails ml_X12_99 pn_X12_fails (ru_Rm (by decide)) (Nat.le_of_ble_eq_true rfl) d_X12_readLine_93 ?_
      exact (hc_fails c0 c1)
theorem b_X12_readLine_96 {X : cX} {d : Nat} {μ : mM} {K : Option Value → mM → Prop} {r0 : Nat} (hw12_r0 : WF12 μ r0) (hc_readsOn : Ct X (Rm (d + 4)) mX12_readsOn [.ref r0] μ (fun r μ2 => G X (Rm (d + 5)) mX12_readLine 100 [] (r.toList ++ []) μ2 0 0 K)) : G X (Rm (d + 5)) mX12_readLine 96 [(0, .ref r0)] [] μ 0 0 K := by
  refine G_aload_n d_X12_readLine_96 rfl 0 rfl ?_
  refine G_sub (L' := []) [] rfl ?_
  refine G_callV (M' := mX12_readsOn) (R' := (Rm (d + 4))) (S := []) [] 12 (w12_kd hw12_r0) cok12 rfl ok_X12_readsOn ml_X12_108 pn_X12_readsOn (ru_Rm (by decide)) (Nat.le_of_ble_eq_true rfl) d_X12_readLine_97 ?_
  exact hc_readsOn
theorem b_X12_readLine_100 {X : cX} {d : Nat} {μ : mM} {K : Option Value → mM → Prop}  (hK : K none μ) : G X (Rm (d + 5)) mX12_readLine 100 [] [] μ 0 0 K := by
  exact G_vret rfl rfl rfl d_X12_readLine_100 hK
theorem d_X12_copies_0 : decode cX12_copies 0 = .ok (.iconst 0, 1) := by decide +kernel
theorem d_X12_copies_1 : decode cX12_copies 1 = .ok (.istore_n 3, 1) := by decide +kernel
theorem d_X12_copies_2 : decode cX12_copies 2 = .ok (.iload_n 3, 1) := by decide +kernel
theorem d_X12_copies_3 : decode cX12_copies 3 = .ok (.bipush 61, 2) := by decide +kernel
theorem d_X12_copies_5 : decode cX12_copies 5 = .ok (.if_icmp .ge 25, 3) := by decide +kernel
theorem d_X12_copies_8 : decode cX12_copies 8 = .ok (.aload_n 0, 1) := by decide +kernel
theorem d_X12_copies_9 : decode cX12_copies 9 = .ok (.getfield 7, 3) := by decide +kernel
theorem d_X12_copies_12 : decode cX12_copies 12 = .ok (.iload_n 2, 1) := by decide +kernel
theorem d_X12_copies_13 : decode cX12_copies 13 = .ok (.iload_n 3, 1) := by decide +kernel
theorem d_X12_copies_14 : decode cX12_copies 14 = .ok (.iadd, 1) := by decide +kernel
theorem d_X12_copies_15 : decode cX12_copies 15 = .ok (.aload_n 0, 1) := by decide +kernel
theorem d_X12_copies_16 : decode cX12_copies 16 = .ok (.getfield 7, 3) := by decide +kernel
theorem d_X12_copies_19 : decode cX12_copies 19 = .ok (.iload_n 1, 1) := by decide +kernel
theorem d_X12_copies_20 : decode cX12_copies 20 = .ok (.iload_n 3, 1) := by decide +kernel
theorem d_X12_copies_21 : decode cX12_copies 21 = .ok (.iadd, 1) := by decide +kernel
theorem d_X12_copies_22 : decode cX12_copies 22 = .ok (.iaload, 1) := by decide +kernel
theorem d_X12_copies_23 : decode cX12_copies 23 = .ok (.iastore, 1) := by decide +kernel
theorem d_X12_copies_24 : decode cX12_copies 24 = .ok (.iinc 3 1, 3) := by decide +kernel
theorem d_X12_copies_27 : decode cX12_copies 27 = .ok (.goto (-25), 3) := by decide +kernel
theorem d_X12_copies_30 : decode cX12_copies 30 = .ok (.return_, 1) := by decide +kernel
theorem b_X12_copies_0 {X : cX} {d : Nat} {μ : mM} {K : Option Value → mM → Prop} {r0 : Nat} {l1 : Int32} {l2 : Int32} (h : G X (Rm d) mX12_copies 2 [(0, .ref r0), (1, .int l1), (2, .int l2), (3, .int (nI 0))] [] μ 0 0 K) : G X (Rm d) mX12_copies 0 [(0, .ref r0), (1, .int l1), (2, .int l2)] [] μ 0 0 K := by
  refine G_iconst d_X12_copies_0 ic_0 ?_
  refine G_istore_n (L' := [(3, .int (nI 0)), (0, .ref r0), (1, .int l1), (2, .int l2)]) d_X12_copies_1 rfl (by decide) rfl ?_
  refine G_sub (L' := [(0, .ref r0), (1, .int l1), (2, .int l2), (3, .int (nI 0))]) [1, 2, 3, 0] rfl ?_
  exact h
theorem b_X12_copies_2 {X : cX} {d : Nat} {μ : mM} {K : Option Value → mM → Prop} {r0 : Nat} {i1 : Nat} {i2 : Nat} {i3 : Nat} (hK : (61 : Int32) ≤ (nI i3) → K none μ) (hw12_r0 : WF12 μ r0) (hb : ¬ (61 : Int32) ≤ (nI i3) → (i1 + i3) < 366) (hb_2 : ¬ (61 : Int32) ≤ (nI i3) → (i2 + i3) < 366) (h : ¬ (61 : Int32) ≤ (nI i3) → G X (Rm d) mX12_copies 2 [(0, .ref r0), (1, .int (nI i1)), (2, .int (nI i2)), (3, .int (nI (i3 + 1)))] [] (wi μ (r0 + 1) (i2 + i3) (iv μ (r0 + 1) (i1 + i3))) 0 0 K) : G X (Rm d) mX12_copies 2 [(0, .ref r0), (1, .int (nI i1)), (2, .int (nI i2)), (3, .int (nI i3))] [] μ 0 0 K := by
  refine G_iload_n d_X12_copies_2 rfl 3 rfl ?_
  refine G_bipush d_X12_copies_3 bp_61 ?_
  refine G_icmp_ge (tgt := 30) d_X12_copies_5 rfl (fun c0 => ?_) (fun c0 => ?_)
  ·
    exact G_vret rfl rfl rfl d_X12_copies_30 (hK c0)
  ·
    refine G_aload_n d_X12_copies_8 rfl 0 rfl ?_
    refine G_getR (r := r0 + 1) 12 0 (w12_kd hw12_r0) (w12_f0 hw12_r0) cok12 (by decide) rfl fl_X12_7 d_X12_copies_9 ?_
    refine G_iload_n d_X12_copies_12 rfl 2 rfl ?_
    refine G_iload_n d_X12_copies_13 rfl 3 rfl ?_
    refine G_iadd d_X12_copies_14 ?_
    refine G_aload_n d_X12_copies_15 rfl 0 rfl ?_
    refine G_getR (r := r0 + 1) 12 0 (w12_kd hw12_r0) (w12_f0 hw12_r0) cok12 (by decide) rfl fl_X12_7 d_X12_copies_16 ?_
    refine G_iload_n d_X12_copies_19 rfl 1 rfl ?_
    refine G_iload_n d_X12_copies_20 rfl 3 rfl ?_
    refine G_iadd d_X12_copies_21 ?_
    refine G_iald (i1 + i3) (w12_k0 hw12_r0) (nadd rfl rfl) (hb c0) d_X12_copies_22 ?_
    refine G_iast (i2 + i3) (w12_k0 hw12_r0) (nadd rfl rfl) (hb_2 c0) d_X12_copies_23 ?_
    refine G_iinc (L' := [(3, .int (nI (i3 + 1))), (0, .ref r0), (1, .int (nI i1)), (2, .int (nI i2))]) d_X12_copies_24 3 rfl (inc1 i3) (by decide) rfl ?_
    refine G_goto (tgt := 2) d_X12_copies_27 rfl ?_
    refine G_sub (L' := [(0, .ref r0), (1, .int (nI i1)), (2, .int (nI i2)), (3, .int (nI (i3 + 1)))]) [1, 2, 3, 0] rfl ?_
    exact (h c0)
theorem d_X12_text_0 : decode cX12_text 0 = .ok (.aload_n 0, 1) := by decide +kernel
theorem d_X12_text_1 : decode cX12_text 1 = .ok (.iconst 0, 1) := by decide +kernel
theorem d_X12_text_2 : decode cX12_text 2 = .ok (.putfield 69, 3) := by decide +kernel
theorem d_X12_text_5 : decode cX12_text 5 = .ok (.aload_n 0, 1) := by decide +kernel
theorem d_X12_text_6 : decode cX12_text 6 = .ok (.iconst 0, 1) := by decide +kernel
theorem d_X12_text_7 : decode cX12_text 7 = .ok (.putfield 81, 3) := by decide +kernel
theorem d_X12_text_10 : decode cX12_text 10 = .ok (.aload_n 0, 1) := by decide +kernel
theorem d_X12_text_11 : decode cX12_text 11 = .ok (.iconst 0, 1) := by decide +kernel
theorem d_X12_text_12 : decode cX12_text 12 = .ok (.putfield 111, 3) := by decide +kernel
theorem d_X12_text_15 : decode cX12_text 15 = .ok (.aload_n 0, 1) := by decide +kernel
theorem d_X12_text_16 : decode cX12_text 16 = .ok (.iconst 0, 1) := by decide +kernel
theorem d_X12_text_17 : decode cX12_text 17 = .ok (.putfield 136, 3) := by decide +kernel
theorem d_X12_text_20 : decode cX12_text 20 = .ok (.iconst 0, 1) := by decide +kernel
theorem d_X12_text_21 : decode cX12_text 21 = .ok (.istore_n 1, 1) := by decide +kernel
theorem d_X12_text_22 : decode cX12_text 22 = .ok (.iconst 0, 1) := by decide +kernel
theorem d_X12_text_23 : decode cX12_text 23 = .ok (.istore_n 2, 1) := by decide +kernel
theorem d_X12_text_24 : decode cX12_text 24 = .ok (.iload_n 2, 1) := by decide +kernel
theorem d_X12_text_25 : decode cX12_text 25 = .ok (.bipush 61, 2) := by decide +kernel
theorem d_X12_text_27 : decode cX12_text 27 = .ok (.if_icmp .ge 20, 3) := by decide +kernel
theorem d_X12_text_30 : decode cX12_text 30 = .ok (.aload_n 0, 1) := by decide +kernel
theorem d_X12_text_31 : decode cX12_text 31 = .ok (.getfield 7, 3) := by decide +kernel
theorem d_X12_text_34 : decode cX12_text 34 = .ok (.sipush 183, 3) := by decide +kernel
theorem d_X12_text_37 : decode cX12_text 37 = .ok (.iload_n 2, 1) := by decide +kernel
theorem d_X12_text_38 : decode cX12_text 38 = .ok (.iadd, 1) := by decide +kernel
theorem d_X12_text_39 : decode cX12_text 39 = .ok (.iconst 0, 1) := by decide +kernel
theorem d_X12_text_40 : decode cX12_text 40 = .ok (.iastore, 1) := by decide +kernel
theorem d_X12_text_41 : decode cX12_text 41 = .ok (.iinc 2 1, 3) := by decide +kernel
theorem d_X12_text_44 : decode cX12_text 44 = .ok (.goto (-20), 3) := by decide +kernel
theorem d_X12_text_47 : decode cX12_text 47 = .ok (.iconst 0, 1) := by decide +kernel
theorem d_X12_text_48 : decode cX12_text 48 = .ok (.istore_n 2, 1) := by decide +kernel
theorem d_X12_text_49 : decode cX12_text 49 = .ok (.iload_n 2, 1) := by decide +kernel
theorem d_X12_text_50 : decode cX12_text 50 = .ok (.sipush 192, 3) := by decide +kernel
theorem d_X12_text_53 : decode cX12_text 53 = .ok (.if_icmp .ge 16, 3) := by decide +kernel
theorem d_X12_text_56 : decode cX12_text 56 = .ok (.aload_n 0, 1) := by decide +kernel
theorem d_X12_text_57 : decode cX12_text 57 = .ok (.getfield 16, 3) := by decide +kernel
theorem d_X12_text_60 : decode cX12_text 60 = .ok (.iload_n 2, 1) := by decide +kernel
theorem d_X12_text_61 : decode cX12_text 61 = .ok (.iconst 0, 1) := by decide +kernel
theorem d_X12_text_62 : decode cX12_text 62 = .ok (.iastore, 1) := by decide +kernel
theorem d_X12_text_63 : decode cX12_text 63 = .ok (.iinc 2 1, 3) := by decide +kernel
theorem d_X12_text_66 : decode cX12_text 66 = .ok (.goto (-17), 3) := by decide +kernel
theorem d_X12_text_69 : decode cX12_text 69 = .ok (.aload_n 0, 1) := by decide +kernel
theorem d_X12_text_70 : decode cX12_text 70 = .ok (.invokevirtual 108, 3) := by decide +kernel
theorem d_X12_text_73 : decode cX12_text 73 = .ok (.aload_n 0, 1) := by decide +kernel
theorem d_X12_text_74 : decode cX12_text 74 = .ok (.getfield 69, 3) := by decide +kernel
theorem d_X12_text_77 : decode cX12_text 77 = .ok (.ifCond .ne 20, 3) := by decide +kernel
theorem d_X12_text_80 : decode cX12_text 80 = .ok (.aload_n 0, 1) := by decide +kernel
theorem d_X12_text_81 : decode cX12_text 81 = .ok (.getfield 78, 3) := by decide +kernel
theorem d_X12_text_84 : decode cX12_text 84 = .ok (.ifCond .eq 13, 3) := by decide +kernel
theorem d_X12_text_87 : decode cX12_text 87 = .ok (.aload_n 0, 1) := by decide +kernel
theorem d_X12_text_88 : decode cX12_text 88 = .ok (.invokevirtual 156, 3) := by decide +kernel
theorem d_X12_text_91 : decode cX12_text 91 = .ok (.iinc 1 1, 3) := by decide +kernel
theorem d_X12_text_94 : decode cX12_text 94 = .ok (.goto (-21), 3) := by decide +kernel
theorem d_X12_text_97 : decode cX12_text 97 = .ok (.aload_n 0, 1) := by decide +kernel
theorem d_X12_text_98 : decode cX12_text 98 = .ok (.getfield 69, 3) := by decide +kernel
theorem d_X12_text_101 : decode cX12_text 101 = .ok (.ifCond .ne 24, 3) := by decide +kernel
theorem d_X12_text_104 : decode cX12_text 104 = .ok (.aload_n 0, 1) := by decide +kernel
theorem d_X12_text_105 : decode cX12_text 105 = .ok (.getfield 111, 3) := by decide +kernel
theorem d_X12_text_108 : decode cX12_text 108 = .ok (.aload_n 0, 1) := by decide +kernel
theorem d_X12_text_109 : decode cX12_text 109 = .ok (.getfield 7, 3) := by decide +kernel
theorem d_X12_text_112 : decode cX12_text 112 = .ok (.sipush 243, 3) := by decide +kernel
theorem d_X12_text_115 : decode cX12_text 115 = .ok (.iaload, 1) := by decide +kernel
theorem d_X12_text_116 : decode cX12_text 116 = .ok (.if_icmp .le 9, 3) := by decide +kernel
theorem d_X12_text_119 : decode cX12_text 119 = .ok (.aload_n 0, 1) := by decide +kernel
theorem d_X12_text_120 : decode cX12_text 120 = .ok (.bipush 6, 2) := by decide +kernel
theorem d_X12_text_122 : decode cX12_text 122 = .ok (.invokevirtual 99, 3) := by decide +kernel
theorem d_X12_text_125 : decode cX12_text 125 = .ok (.aload_n 0, 1) := by decide +kernel
theorem d_X12_text_126 : decode cX12_text 126 = .ok (.iconst 0, 1) := by decide +kernel
theorem d_X12_text_127 : decode cX12_text 127 = .ok (.putfield 65, 3) := by decide +kernel
theorem d_X12_text_130 : decode cX12_text 130 = .ok (.aload_n 0, 1) := by decide +kernel
theorem d_X12_text_131 : decode cX12_text 131 = .ok (.aload_n 0, 1) := by decide +kernel
theorem d_X12_text_132 : decode cX12_text 132 = .ok (.getfield 69, 3) := by decide +kernel
theorem d_X12_text_135 : decode cX12_text 135 = .ok (.putfield 159, 3) := by decide +kernel
theorem d_X12_text_138 : decode cX12_text 138 = .ok (.aload_n 0, 1) := by decide +kernel
theorem d_X12_text_139 : decode cX12_text 139 = .ok (.getfield 69, 3) := by decide +kernel
theorem d_X12_text_142 : decode cX12_text 142 = .ok (.ifCond .le 11, 3) := by decide +kernel
theorem d_X12_text_145 : decode cX12_text 145 = .ok (.bipush (-10), 2) := by decide +kernel
theorem d_X12_text_147 : decode cX12_text 147 = .ok (.aload_n 0, 1) := by decide +kernel
theorem d_X12_text_148 : decode cX12_text 148 = .ok (.getfield 75, 3) := by decide +kernel
theorem d_X12_text_151 : decode cX12_text 151 = .ok (.isub, 1) := by decide +kernel
theorem d_X12_text_152 : decode cX12_text 152 = .ok (.ireturn, 1) := by decide +kernel
theorem d_X12_text_153 : decode cX12_text 153 = .ok (.aload_n 0, 1) := by decide +kernel
theorem d_X12_text_154 : decode cX12_text 154 = .ok (.sipush 183, 3) := by decide +kernel
theorem d_X12_text_157 : decode cX12_text 157 = .ok (.iconst 0, 1) := by decide +kernel
theorem d_X12_text_158 : decode cX12_text 158 = .ok (.invokevirtual 162, 3) := by decide +kernel
theorem d_X12_text_161 : decode cX12_text 161 = .ok (.iconst 0, 1) := by decide +kernel
theorem d_X12_text_162 : decode cX12_text 162 = .ok (.istore_n 2, 1) := by decide +kernel
theorem d_X12_text_163 : decode cX12_text 163 = .ok (.iload_n 2, 1) := by decide +kernel
theorem d_X12_text_164 : decode cX12_text 164 = .ok (.sipush 192, 3) := by decide +kernel
theorem d_X12_text_167 : decode cX12_text 167 = .ok (.if_icmp .ge 21, 3) := by decide +kernel
theorem d_X12_text_170 : decode cX12_text 170 = .ok (.aload_n 0, 1) := by decide +kernel
theorem d_X12_text_171 : decode cX12_text 171 = .ok (.getfield 13, 3) := by decide +kernel
theorem d_X12_text_174 : decode cX12_text 174 = .ok (.iload_n 2, 1) := by decide +kernel
theorem d_X12_text_175 : decode cX12_text 175 = .ok (.aload_n 0, 1) := by decide +kernel
theorem d_X12_text_176 : decode cX12_text 176 = .ok (.getfield 16, 3) := by decide +kernel
theorem d_X12_text_179 : decode cX12_text 179 = .ok (.iload_n 2, 1) := by decide +kernel
theorem d_X12_text_180 : decode cX12_text 180 = .ok (.iaload, 1) := by decide +kernel
theorem d_X12_text_181 : decode cX12_text 181 = .ok (.iastore, 1) := by decide +kernel
theorem d_X12_text_182 : decode cX12_text 182 = .ok (.iinc 2 1, 3) := by decide +kernel
theorem d_X12_text_185 : decode cX12_text 185 = .ok (.goto (-22), 3) := by decide +kernel
theorem d_X12_text_188 : decode cX12_text 188 = .ok (.aload_n 0, 1) := by decide +kernel
theorem d_X12_text_189 : decode cX12_text 189 = .ok (.aload_n 0, 1) := by decide +kernel
theorem d_X12_text_190 : decode cX12_text 190 = .ok (.getfield 136, 3) := by decide +kernel
theorem d_X12_text_193 : decode cX12_text 193 = .ok (.putfield 166, 3) := by decide +kernel
theorem d_X12_text_196 : decode cX12_text 196 = .ok (.aload_n 0, 1) := by decide +kernel
theorem d_X12_text_197 : decode cX12_text 197 = .ok (.getfield 43, 3) := by decide +kernel
theorem d_X12_text_200 : decode cX12_text 200 = .ok (.iconst 0, 1) := by decide +kernel
theorem d_X12_text_201 : decode cX12_text 201 = .ok (.iconst 0, 1) := by decide +kernel
theorem d_X12_text_202 : decode cX12_text 202 = .ok (.bastore, 1) := by decide +kernel
theorem d_X12_text_203 : decode cX12_text 203 = .ok (.aload_n 0, 1) := by decide +kernel
theorem d_X12_text_204 : decode cX12_text 204 = .ok (.getfield 43, 3) := by decide +kernel
theorem d_X12_text_207 : decode cX12_text 207 = .ok (.iconst 1, 1) := by decide +kernel
theorem d_X12_text_208 : decode cX12_text 208 = .ok (.iconst 0, 1) := by decide +kernel
theorem d_X12_text_209 : decode cX12_text 209 = .ok (.bastore, 1) := by decide +kernel
theorem d_X12_text_210 : decode cX12_text 210 = .ok (.iload_n 1, 1) := by decide +kernel
theorem d_X12_text_211 : decode cX12_text 211 = .ok (.ireturn, 1) := by decide +kernel
theorem b_X12_text_0 {X : cX} {d : Nat} {μ : mM} {K : Option Value → mM → Prop} {r0 : Nat} (hw12_r0 : WF12 μ r0) (h : G X (Rm (d + 6)) mX12_text 24 [(0, .ref r0), (1, .int (nI 0)), (2, .int (nI 0))] [] (wi (wi (wi (wi μ r0 8 0) r0 10 0) r0 14 0) r0 4 0) 0 0 K) : G X (Rm (d + 6)) mX12_text 0 [(0, .ref r0)] [] μ 0 0 K := by
  refine G_aload_n d_X12_text_0 rfl 0 rfl ?_
  refine G_iconst d_X12_text_1 ic_0 ?_
  refine G_putI 12 8 (w12_kd hw12_r0) rfl rfl cok12 (by decide) rfl (Or.inl rfl) fl_X12_69 d_X12_text_2 ?_
  refine G_aload_n d_X12_text_5 rfl 0 rfl ?_
  refine G_iconst d_X12_text_6 ic_0 ?_
  refine G_putI 12 10 (w12_kd hw12_r0) rfl rfl cok12 (by decide) rfl (Or.inl rfl) fl_X12_81 d_X12_text_7 ?_
  refine G_aload_n d_X12_text_10 rfl 0 rfl ?_
  refine G_iconst d_X12_text_11 ic_0 ?_
  refine G_putI 12 14 (w12_kd hw12_r0) rfl rfl cok12 (by decide) rfl (Or.inl rfl) fl_X12_111 d_X12_text_12 ?_
  refine G_aload_n d_X12_text_15 rfl 0 rfl ?_
  refine G_iconst d_X12_text_16 ic_0 ?_
  refine G_putI 12 4 (w12_kd hw12_r0) rfl rfl cok12 (by decide) rfl (Or.inl rfl) fl_X12_136 d_X12_text_17 ?_
  refine G_iconst d_X12_text_20 ic_0 ?_
  refine G_istore_n (L' := [(1, .int (nI 0)), (0, .ref r0)]) d_X12_text_21 rfl (by decide) rfl ?_
  refine G_iconst d_X12_text_22 ic_0 ?_
  refine G_istore_n (L' := [(2, .int (nI 0)), (1, .int (nI 0)), (0, .ref r0)]) d_X12_text_23 rfl (by decide) rfl ?_
  refine G_sub (L' := [(0, .ref r0), (1, .int (nI 0)), (2, .int (nI 0))]) [2, 1, 0] rfl ?_
  exact h
theorem b_X12_text_24 {X : cX} {d : Nat} {μ : mM} {K : Option Value → mM → Prop} {r0 : Nat} {l1 : Int32} {i2 : Nat} (h : (61 : Int32) ≤ (nI i2) → G X (Rm (d + 6)) mX12_text 49 [(0, .ref r0), (1, .int l1), (2, .int (nI 0))] [] μ 0 0 K) (hw12_r0 : WF12 μ r0) (hb : ¬ (61 : Int32) ≤ (nI i2) → (183 + i2) < 366) (h_2 : ¬ (61 : Int32) ≤ (nI i2) → G X (Rm (d + 6)) mX12_text 24 [(0, .ref r0), (1, .int l1), (2, .int (nI (i2 + 1)))] [] (wi μ (r0 + 1) (183 + i2) 0) 0 0 K) : G X (Rm (d + 6)) mX12_text 24 [(0, .ref r0), (1, .int l1), (2, .int (nI i2))] [] μ 0 0 K := by
  refine G_iload_n d_X12_text_24 rfl 2 rfl ?_
  refine G_bipush d_X12_text_25 bp_61 ?_
  refine G_icmp_ge (tgt := 47) d_X12_text_27 rfl (fun c0 => ?_) (fun c0 => ?_)
  ·
    refine G_iconst d_X12_text_47 ic_0 ?_
    refine G_istore_n (L' := [(2, .int (nI 0)), (0, .ref r0), (1, .int l1)]) d_X12_text_48 rfl (by decide) rfl ?_
    refine G_sub (L' := [(0, .ref r0), (1, .int l1), (2, .int (nI 0))]) [1, 2, 0] rfl ?_
    exact (h c0)
  ·
    refine G_aload_n d_X12_text_30 rfl 0 rfl ?_
    refine G_getR (r := r0 + 1) 12 0 (w12_kd hw12_r0) (w12_f0 hw12_r0) cok12 (by decide) rfl fl_X12_7 d_X12_text_31 ?_
    refine G_sipush d_X12_text_34 sp_183 ?_
    refine G_iload_n d_X12_text_37 rfl 2 rfl ?_
    refine G_iadd d_X12_text_38 ?_
    refine G_iconst d_X12_text_39 ic_0 ?_
    refine G_iast (183 + i2) (w12_k0 hw12_r0) (nadd rfl rfl) (hb c0) d_X12_text_40 ?_
    refine G_iinc (L' := [(2, .int (nI (i2 + 1))), (0, .ref r0), (1, .int l1)]) d_X12_text_41 2 rfl (inc1 i2) (by decide) rfl ?_
    refine G_goto (tgt := 24) d_X12_text_44 rfl ?_
    refine G_sub (L' := [(0, .ref r0), (1, .int l1), (2, .int (nI (i2 + 1)))]) [1, 2, 0] rfl ?_
    exact (h_2 c0)
theorem b_X12_text_49 {X : cX} {d : Nat} {μ : mM} {K : Option Value → mM → Prop} {r0 : Nat} {l1 : Int32} {i2 : Nat} (hw12_r0 : WF12 μ r0) (hc_readsOn : (192 : Int32) ≤ (nI i2) → Ct X (Rm (d + 5)) mX12_readsOn [.ref r0] μ (fun r μ2 => G X (Rm (d + 6)) mX12_text 73 [(0, .ref r0), (1, .int l1)] (r.toList ++ []) μ2 0 0 K)) (hb : ¬ (192 : Int32) ≤ (nI i2) → i2 < 192) (h : ¬ (192 : Int32) ≤ (nI i2) → G X (Rm (d + 6)) mX12_text 49 [(0, .ref r0), (1, .int l1), (2, .int (nI (i2 + 1)))] [] (wi μ (r0 + 3) i2 0) 0 0 K) : G X (Rm (d + 6)) mX12_text 49 [(0, .ref r0), (1, .int l1), (2, .int (nI i2))] [] μ 0 0 K := by
  refine G_iload_n d_X12_text_49 rfl 2 rfl ?_
  refine G_sipush d_X12_text_50 sp_192 ?_
  refine G_icmp_ge (tgt := 69) d_X12_text_53 rfl (fun c0 => ?_) (fun c0 => ?_)
  ·
    refine G_aload_n d_X12_text_69 rfl 0 rfl ?_
    refine G_sub (L' := [(0, .ref r0), (1, .int l1)]) [0, 1] rfl ?_
    refine G_callV (M' := mX12_readsOn) (R' := (Rm (d + 5))) (S := []) [] 12 (w12_kd hw12_r0) cok12 rfl ok_X12_readsOn ml_X12_108 pn_X12_readsOn (ru_Rm (by decide)) (Nat.le_of_ble_eq_true rfl) d_X12_text_70 ?_
    exact (hc_readsOn c0)
  ·
    refine G_aload_n d_X12_text_56 rfl 0 rfl ?_
    refine G_getR (r := r0 + 3) 12 3 (w12_kd hw12_r0) (w12_f3 hw12_r0) cok12 (by decide) rfl fl_X12_16 d_X12_text_57 ?_
    refine G_iload_n d_X12_text_60 rfl 2 rfl ?_
    refine G_iconst d_X12_text_61 ic_0 ?_
    refine G_iast i2 (w12_k3 hw12_r0) rfl (hb c0) d_X12_text_62 ?_
    refine G_iinc (L' := [(2, .int (nI (i2 + 1))), (0, .ref r0), (1, .int l1)]) d_X12_text_63 2 rfl (inc1 i2) (by decide) rfl ?_
    refine G_goto (tgt := 49) d_X12_text_66 rfl ?_
    refine G_sub (L' := [(0, .ref r0), (1, .int l1), (2, .int (nI (i2 + 1)))]) [1, 2, 0] rfl ?_
    exact (h c0)
theorem b_X12_text_73 {X : cX} {d : Nat} {μ : mM} {K : Option Value → mM → Prop} {r0 : Nat} {l1 : Int32} (hw12_r0 : WF12 μ r0) (h : ¬ (iv μ r0 8) = 0 → G X (Rm (d + 6)) mX12_text 97 [(0, .ref r0), (1, .int l1)] [] μ 0 0 K) (h_2 : (iv μ r0 8) = 0 → (iv μ r0 12) = 0 → G X (Rm (d + 6)) mX12_text 97 [(0, .ref r0), (1, .int l1)] [] μ 0 0 K) (hc_readLine : (iv μ r0 8) = 0 → ¬ (iv μ r0 12) = 0 → Ct X (Rm (d + 5)) mX12_readLine [.ref r0] μ (fun r μ2 => G X (Rm (d + 6)) mX12_text 91 [(0, .ref r0), (1, .int l1)] (r.toList ++ []) μ2 0 0 K)) : G X (Rm (d + 6)) mX12_text 73 [(0, .ref r0), (1, .int l1)] [] μ 0 0 K := by
  refine G_aload_n d_X12_text_73 rfl 0 rfl ?_
  refine G_getI 12 8 (w12_kd hw12_r0) cok12 (by decide) rfl fl_X12_69 d_X12_text_74 ?_
  refine G_if_ne (tgt := 97) d_X12_text_77 rfl (fun c0 => ?_) (fun c0 => ?_)
  ·
    exact (h c0)
  ·
    refine G_aload_n d_X12_text_80 rfl 0 rfl ?_
    refine G_getI 12 12 (w12_kd hw12_r0) cok12 (by decide) rfl fl_X12_78 d_X12_text_81 ?_
    refine G_if_eq (tgt := 97) d_X12_text_84 rfl (fun c1 => ?_) (fun c1 => ?_)
    ·
      exact (h_2 c0 c1)
    ·
      refine G_aload_n d_X12_text_87 rfl 0 rfl ?_
      refine G_callV (M' := mX12_readLine) (R' := (Rm (d + 5))) (S := []) [] 12 (w12_kd hw12_r0) cok12 rfl ok_X12_readLine ml_X12_156 pn_X12_readLine (ru_Rm (by decide)) (Nat.le_of_ble_eq_true rfl) d_X12_text_88 ?_
      exact (hc_readLine c0 c1)
theorem b_X12_text_91 {X : cX} {d : Nat} {μ : mM} {K : Option Value → mM → Prop} {r0 : Nat} {i1 : Nat} (h : G X (Rm (d + 6)) mX12_text 73 [(0, .ref r0), (1, .int (nI (i1 + 1)))] [] μ 0 0 K) : G X (Rm (d + 6)) mX12_text 91 [(0, .ref r0), (1, .int (nI i1))] [] μ 0 0 K := by
  refine G_iinc (L' := [(1, .int (nI (i1 + 1))), (0, .ref r0)]) d_X12_text_91 1 rfl (inc1 i1) (by decide) rfl ?_
  refine G_goto (tgt := 73) d_X12_text_94 rfl ?_
  refine G_sub (L' := [(0, .ref r0), (1, .int (nI (i1 + 1)))]) [1, 0] rfl ?_
  exact h
theorem b_X12_text_97 {X : cX} {d : Nat} {μ : mM} {K : Option Value → mM → Prop} {r0 : Nat} {l1 : Int32} (hw12_r0 : WF12 μ r0) (h : ¬ (iv μ r0 8) = 0 → G X (Rm (d + 6)) mX12_text 125 [(0, .ref r0), (1, .int l1)] [] μ 0 0 K) (h_2 : (iv μ r0 8) = 0 → (iv μ r0 14) ≤ (iv μ (r0 + 1) 243) → G X (Rm (d + 6)) mX12_text 125 [(0, .ref r0), (1, .int l1)] [] μ 0 0 K) (hc_fails : (iv μ r0 8) = 0 → ¬ (iv μ r0 14) ≤ (iv μ (r0 + 1) 243) → Ct X (Rm (d + 5)) mX12_fails [.ref r0, .int 6] μ (fun r μ2 => G X (Rm (d + 6)) mX12_text 125 [(0, .ref r0), (1, .int l1)] (r.toList ++ []) μ2 0 0 K)) : G X (Rm (d + 6)) mX12_text 97 [(0, .ref r0), (1, .int l1)] [] μ 0 0 K := by
  refine G_aload_n d_X12_text_97 rfl 0 rfl ?_
  refine G_getI 12 8 (w12_kd hw12_r0) cok12 (by decide) rfl fl_X12_69 d_X12_text_98 ?_
  refine G_if_ne (tgt := 125) d_X12_text_101 rfl (fun c0 => ?_) (fun c0 => ?_)
  ·
    exact (h c0)
  ·
    refine G_aload_n d_X12_text_104 rfl 0 rfl ?_
    refine G_getI 12 14 (w12_kd hw12_r0) cok12 (by decide) rfl fl_X12_111 d_X12_text_105 ?_
    refine G_aload_n d_X12_text_108 rfl 0 rfl ?_
    refine G_getR (r := r0 + 1) 12 0 (w12_kd hw12_r0) (w12_f0 hw12_r0) cok12 (by decide) rfl fl_X12_7 d_X12_text_109 ?_
    refine G_sipush d_X12_text_112 sp_243 ?_
    refine G_iald 243 (w12_k0 hw12_r0) rfl (by decide) d_X12_text_115 ?_
    refine G_icmp_le (tgt := 125) d_X12_text_116 rfl (fun c1 => ?_) (fun c1 => ?_)
    ·
      exact (h_2 c0 c1)
    ·
      refine G_aload_n d_X12_text_119 rfl 0 rfl ?_
      refine G_bipush d_X12_text_120 bp_6 ?_
      refine G_callV (M' := mX12_fails) (R' := (Rm (d + 5))) (S := []) [.int 6] 12 (w12_kd hw12_r0) cok12 rfl ok_X12_fails ml_X12_99 pn_X12_fails (ru_Rm (by decide)) (Nat.le_of_ble_eq_true rfl) d_X12_text_122 ?_
      exact (hc_fails c0 c1)
theorem b_X12_text_125 {X : cX} {d : Nat} {μ : mM} {K : Option Value → mM → Prop} {r0 : Nat} {l1 : Int32} (hw12_r0 : WF12 μ r0) (hc_copies : (iv (wi (wi μ r0 6 0) r0 7 (iv (wi μ r0 6 0) r0 8)) r0 8) ≤ 0 → Ct X (Rm (d + 5)) mX12_copies [.ref r0, .int 183, .int 0] (wi (wi μ r0 6 0) r0 7 (iv (wi μ r0 6 0) r0 8)) (fun r μ2 => G X (Rm (d + 6)) mX12_text 161 [(0, .ref r0), (1, .int l1)] (r.toList ++ []) μ2 0 0 K)) (hK : ¬ (iv (wi (wi μ r0 6 0) r0 7 (iv (wi μ r0 6 0) r0 8)) r0 8) ≤ 0 → K (some (.int (((-10) : Int32) - (iv (wi (wi μ r0 6 0) r0 7 (iv (wi μ r0 6 0) r0 8)) r0 9)))) (wi (wi μ r0 6 0) r0 7 (iv (wi μ r0 6 0) r0 8))) : G X (Rm (d + 6)) mX12_text 125 [(0, .ref r0), (1, .int l1)] [] μ 0 0 K := by
  refine G_aload_n d_X12_text_125 rfl 0 rfl ?_
  refine G_iconst d_X12_text_126 ic_0 ?_
  refine G_putI 12 6 (w12_kd hw12_r0) rfl rfl cok12 (by decide) rfl (Or.inl rfl) fl_X12_65 d_X12_text_127 ?_
  refine G_aload_n d_X12_text_130 rfl 0 rfl ?_
  refine G_aload_n d_X12_text_131 rfl 0 rfl ?_
  refine G_getI 12 8 (w12_kd hw12_r0) cok12 (by decide) rfl fl_X12_69 d_X12_text_132 ?_
  refine G_putI 12 7 (w12_kd hw12_r0) rfl rfl cok12 (by decide) rfl (Or.inl rfl) fl_X12_159 d_X12_text_135 ?_
  refine G_aload_n d_X12_text_138 rfl 0 rfl ?_
  refine G_getI 12 8 (w12_kd hw12_r0) cok12 (by decide) rfl fl_X12_69 d_X12_text_139 ?_
  refine G_if_le (tgt := 153) d_X12_text_142 rfl (fun c0 => ?_) (fun c0 => ?_)
  ·
    refine G_aload_n d_X12_text_153 rfl 0 rfl ?_
    refine G_sipush d_X12_text_154 sp_183 ?_
    refine G_iconst d_X12_text_157 ic_0 ?_
    refine G_callV (M' := mX12_copies) (R' := (Rm (d + 5))) (S := []) [.int 183, .int 0] 12 (w12_kd hw12_r0) cok12 rfl ok_X12_copies ml_X12_162 pn_X12_copies (ru_Rm (by decide)) (Nat.le_of_ble_eq_true rfl) d_X12_text_158 ?_
    exact (hc_copies c0)
  ·
    refine G_bipush d_X12_text_145 bp_m10 ?_
    refine G_aload_n d_X12_text_147 rfl 0 rfl ?_
    refine G_getI 12 9 (w12_kd hw12_r0) cok12 (by decide) rfl fl_X12_75 d_X12_text_148 ?_
    refine G_isub d_X12_text_151 ?_
    exact G_iret rfl rfl rfl d_X12_text_152 (hK c0)
theorem b_X12_text_161 {X : cX} {d : Nat} {μ : mM} {K : Option Value → mM → Prop} {r0 : Nat} {l1 : Int32} (h : G X (Rm (d + 6)) mX12_text 163 [(0, .ref r0), (1, .int l1), (2, .int (nI 0))] [] μ 0 0 K) : G X (Rm (d + 6)) mX12_text 161 [(0, .ref r0), (1, .int l1)] [] μ 0 0 K := by
  refine G_iconst d_X12_text_161 ic_0 ?_
  refine G_istore_n (L' := [(2, .int (nI 0)), (0, .ref r0), (1, .int l1)]) d_X12_text_162 rfl (by decide) rfl ?_
  refine G_sub (L' := [(0, .ref r0), (1, .int l1), (2, .int (nI 0))]) [1, 2, 0] rfl ?_
  exact h
theorem b_X12_text_163 {X : cX} {d : Nat} {μ : mM} {K : Option Value → mM → Prop} {r0 : Nat} {l1 : Int32} {i2 : Nat} (hw12_r0 : WF12 μ r0) (hK : (192 : Int32) ≤ (nI i2) → K (some (.int l1)) (wi (wi (wi μ r0 2 (iv μ r0 4)) (r0 + 12) 0 0) (r0 + 12) 1 0)) (hb : ¬ (192 : Int32) ≤ (nI i2) → i2 < 192) (h : ¬ (192 : Int32) ≤ (nI i2) → G X (Rm (d + 6)) mX12_text 163 [(0, .ref r0), (1, .int l1), (2, .int (nI (i2 + 1)))] [] (wi μ (r0 + 2) i2 (iv μ (r0 + 3) i2)) 0 0 K) : G X (Rm (d + 6)) mX12_text 163 [(0, .ref r0), (1, .int l1), (2, .int (nI i2))] [] μ 0 0 K := by
  refine G_iload_n d_X12_text_163 rfl 2 rfl ?_
  refine G_sipush d_X12_text_164 sp_192 ?_
  refine G_icmp_ge (tgt := 188) d_X12_text_167 rfl (fun c0 => ?_) (fun c0 => ?_)
  ·
    refine G_aload_n d_X12_text_188 rfl 0 rfl ?_
    refine G_aload_n d_X12_text_189 rfl 0 rfl ?_
    refine G_getI 12 4 (w12_kd hw12_r0) cok12 (by decide) rfl fl_X12_136 d_X12_text_190 ?_
    refine G_putI 12 2 (w12_kd hw12_r0) rfl rfl cok12 (by decide) rfl (Or.inl rfl) fl_X12_166 d_X12_text_193 ?_
    refine G_aload_n d_X12_text_196 rfl 0 rfl ?_
    refine G_getR (r := r0 + 12) 12 23 (w12_kd hw12_r0) (w12_f23 hw12_r0) cok12 (by decide) rfl fl_X12_43 d_X12_text_197 ?_
    refine G_iconst d_X12_text_200 ic_0 ?_
    refine G_iconst d_X12_text_201 ic_0 ?_
    refine G_zast (v := 0) 0 (w12_k23 hw12_r0) rfl (by decide) rfl d_X12_text_202 ?_
    refine G_aload_n d_X12_text_203 rfl 0 rfl ?_
    refine G_getR (r := r0 + 12) 12 23 (w12_kd hw12_r0) (w12_f23 hw12_r0) cok12 (by decide) rfl fl_X12_43 d_X12_text_204 ?_
    refine G_iconst d_X12_text_207 ic_1 ?_
    refine G_iconst d_X12_text_208 ic_0 ?_
    refine G_zast (v := 0) 1 (w12_k23 hw12_r0) rfl (by decide) rfl d_X12_text_209 ?_
    refine G_iload_n d_X12_text_210 rfl 1 rfl ?_
    exact G_iret rfl rfl rfl d_X12_text_211 (hK c0)
  ·
    refine G_aload_n d_X12_text_170 rfl 0 rfl ?_
    refine G_getR (r := r0 + 2) 12 1 (w12_kd hw12_r0) (w12_f1 hw12_r0) cok12 (by decide) rfl fl_X12_13 d_X12_text_171 ?_
    refine G_iload_n d_X12_text_174 rfl 2 rfl ?_
    refine G_aload_n d_X12_text_175 rfl 0 rfl ?_
    refine G_getR (r := r0 + 3) 12 3 (w12_kd hw12_r0) (w12_f3 hw12_r0) cok12 (by decide) rfl fl_X12_16 d_X12_text_176 ?_
    refine G_iload_n d_X12_text_179 rfl 2 rfl ?_
    refine G_iald i2 (w12_k3 hw12_r0) rfl (hb c0) d_X12_text_180 ?_
    refine G_iast i2 (w12_k1 hw12_r0) rfl (hb c0) d_X12_text_181 ?_
    refine G_iinc (L' := [(2, .int (nI (i2 + 1))), (0, .ref r0), (1, .int l1)]) d_X12_text_182 2 rfl (inc1 i2) (by decide) rfl ?_
    refine G_goto (tgt := 163) d_X12_text_185 rfl ?_
    refine G_sub (L' := [(0, .ref r0), (1, .int l1), (2, .int (nI (i2 + 1)))]) [1, 2, 0] rfl ?_
    exact (h c0)
theorem d_X12_fault_0 : decode cX12_fault 0 = .ok (.aload_n 0, 1) := by decide +kernel
theorem d_X12_fault_1 : decode cX12_fault 1 = .ok (.getfield 159, 3) := by decide +kernel
theorem d_X12_fault_4 : decode cX12_fault 4 = .ok (.ireturn, 1) := by decide +kernel
theorem b_X12_fault_0 {X : cX} {d : Nat} {μ : mM} {K : Option Value → mM → Prop} {r0 : Nat} (hw12_r0 : WF12 μ r0) (hK : K (some (.int (iv μ r0 7))) μ) : G X (Rm d) mX12_fault 0 [(0, .ref r0)] [] μ 0 0 K := by
  refine G_aload_n d_X12_fault_0 rfl 0 rfl ?_
  refine G_getI 12 7 (w12_kd hw12_r0) cok12 (by decide) rfl fl_X12_159 d_X12_fault_1 ?_
  exact G_iret rfl rfl rfl d_X12_fault_4 hK
def e_X12_fault (μ : mM) (r0 : Nat) : Int32 := (iv μ r0 7)
theorem s_X12_fault {X : cX} {d : Nat} {μ : mM} {K : Option Value → mM → Prop} {r0 : Nat} (hw12_r0 : WF12 μ r0) (hK : K (some (.int (e_X12_fault μ r0))) μ) : Ct X (Rm d) mX12_fault [.ref r0] μ K := Ct_of rfl (Nat.le_of_ble_eq_true rfl) (G_sub [0] rfl (b_X12_fault_0 hw12_r0 hK))
theorem d_X12_nodes_0 : decode cX12_nodes 0 = .ok (.aload_n 0, 1) := by decide +kernel
theorem d_X12_nodes_1 : decode cX12_nodes 1 = .ok (.getfield 7, 3) := by decide +kernel
theorem d_X12_nodes_4 : decode cX12_nodes 4 = .ok (.bipush 60, 2) := by decide +kernel
theorem d_X12_nodes_6 : decode cX12_nodes 6 = .ok (.iaload, 1) := by decide +kernel
theorem d_X12_nodes_7 : decode cX12_nodes 7 = .ok (.ireturn, 1) := by decide +kernel
theorem b_X12_nodes_0 {X : cX} {d : Nat} {μ : mM} {K : Option Value → mM → Prop} {r0 : Nat} (hw12_r0 : WF12 μ r0) (hK : K (some (.int (iv μ (r0 + 1) 60))) μ) : G X (Rm d) mX12_nodes 0 [(0, .ref r0)] [] μ 0 0 K := by
  refine G_aload_n d_X12_nodes_0 rfl 0 rfl ?_
  refine G_getR (r := r0 + 1) 12 0 (w12_kd hw12_r0) (w12_f0 hw12_r0) cok12 (by decide) rfl fl_X12_7 d_X12_nodes_1 ?_
  refine G_bipush d_X12_nodes_4 bp_60 ?_
  refine G_iald 60 (w12_k0 hw12_r0) rfl (by decide) d_X12_nodes_6 ?_
  exact G_iret rfl rfl rfl d_X12_nodes_7 hK
def e_X12_nodes (μ : mM) (r0 : Nat) : Int32 := (iv μ (r0 + 1) 60)
theorem s_X12_nodes {X : cX} {d : Nat} {μ : mM} {K : Option Value → mM → Prop} {r0 : Nat} (hw12_r0 : WF12 μ r0) (hK : K (some (.int (e_X12_nodes μ r0))) μ) : Ct X (Rm d) mX12_nodes [.ref r0] μ K := Ct_of rfl (Nat.le_of_ble_eq_true rfl) (G_sub [0] rfl (b_X12_nodes_0 hw12_r0 hK))
theorem d_X12_and_0 : decode cX12_and 0 = .ok (.iload_n 0, 1) := by decide +kernel
theorem d_X12_and_1 : decode cX12_and 1 = .ok (.iload_n 1, 1) := by decide +kernel
theorem d_X12_and_2 : decode cX12_and 2 = .ok (.if_icmp .ge 7, 3) := by decide +kernel
theorem d_X12_and_5 : decode cX12_and 5 = .ok (.iload_n 0, 1) := by decide +kernel
theorem d_X12_and_6 : decode cX12_and 6 = .ok (.goto 4, 3) := by decide +kernel
theorem d_X12_and_9 : decode cX12_and 9 = .ok (.iload_n 1, 1) := by decide +kernel
theorem d_X12_and_10 : decode cX12_and 10 = .ok (.ireturn, 1) := by decide +kernel
theorem b_X12_and_0 {X : cX} {d : Nat} {μ : mM} {K : Option Value → mM → Prop} {l0 : Int32} {l1 : Int32} (hK : l1 ≤ l0 → K (some (.int l1)) μ) (hK_2 : ¬ l1 ≤ l0 → K (some (.int l0)) μ) : G X (Rm d) mX12_and 0 [(0, .int l0), (1, .int l1)] [] μ 0 0 K := by
  refine G_iload_n d_X12_and_0 rfl 0 rfl ?_
  refine G_iload_n d_X12_and_1 rfl 1 rfl ?_
  refine G_icmp_ge (tgt := 9) d_X12_and_2 rfl (fun c0 => ?_) (fun c0 => ?_)
  ·
    refine G_iload_n d_X12_and_9 rfl 1 rfl ?_
    exact G_iret rfl rfl rfl d_X12_and_10 (hK c0)
  ·
    refine G_iload_n d_X12_and_5 rfl 0 rfl ?_
    refine G_goto (tgt := 10) d_X12_and_6 rfl ?_
    exact G_iret rfl rfl rfl d_X12_and_10 (hK_2 c0)
def e_X12_and (μ : mM) (l0 : Int32) (l1 : Int32) : Int32 := (if l1 ≤ l0 then l1 else l0)
theorem s_X12_and {X : cX} {d : Nat} {μ : mM} {K : Option Value → mM → Prop} {l0 : Int32} {l1 : Int32}  (hK : K (some (.int (e_X12_and μ l0 l1))) μ) : Ct X (Rm d) mX12_and [.int l0, .int l1] μ K := Ct_of rfl (Nat.le_of_ble_eq_true rfl) (G_sub [0, 1] rfl (b_X12_and_0 (fun c0 => by unfold e_X12_and at hK; rw [if_pos c0] at hK; exact hK) (fun c0 => by unfold e_X12_and at hK; rw [if_neg c0] at hK; exact hK)))
theorem d_X12_or_0 : decode cX12_or 0 = .ok (.iload_n 0, 1) := by decide +kernel
theorem d_X12_or_1 : decode cX12_or 1 = .ok (.iload_n 1, 1) := by decide +kernel
theorem d_X12_or_2 : decode cX12_or 2 = .ok (.if_icmp .le 7, 3) := by decide +kernel
theorem d_X12_or_5 : decode cX12_or 5 = .ok (.iload_n 0, 1) := by decide +kernel
theorem d_X12_or_6 : decode cX12_or 6 = .ok (.goto 4, 3) := by decide +kernel
theorem d_X12_or_9 : decode cX12_or 9 = .ok (.iload_n 1, 1) := by decide +kernel
theorem d_X12_or_10 : decode cX12_or 10 = .ok (.ireturn, 1) := by decide +kernel
theorem b_X12_or_0 {X : cX} {d : Nat} {μ : mM} {K : Option Value → mM → Prop} {l0 : Int32} {l1 : Int32} (hK : l0 ≤ l1 → K (some (.int l1)) μ) (hK_2 : ¬ l0 ≤ l1 → K (some (.int l0)) μ) : G X (Rm d) mX12_or 0 [(0, .int l0), (1, .int l1)] [] μ 0 0 K := by
  refine G_iload_n d_X12_or_0 rfl 0 rfl ?_
  refine G_iload_n d_X12_or_1 rfl 1 rfl ?_
  refine G_icmp_le (tgt := 9) d_X12_or_2 rfl (fun c0 => ?_) (fun c0 => ?_)
  ·
    refine G_iload_n d_X12_or_9 rfl 1 rfl ?_
    exact G_iret rfl rfl rfl d_X12_or_10 (hK c0)
  ·
    refine G_iload_n d_X12_or_5 rfl 0 rfl ?_
    refine G_goto (tgt := 10) d_X12_or_6 rfl ?_
    exact G_iret rfl rfl rfl d_X12_or_10 (hK_2 c0)
def e_X12_or (μ : mM) (l0 : Int32) (l1 : Int32) : Int32 := (if l0 ≤ l1 then l1 else l0)
theorem s_X12_or {X : cX} {d : Nat} {μ : mM} {K : Option Value → mM → Prop} {l0 : Int32} {l1 : Int32}  (hK : K (some (.int (e_X12_or μ l0 l1))) μ) : Ct X (Rm d) mX12_or [.int l0, .int l1] μ K := Ct_of rfl (Nat.le_of_ble_eq_true rfl) (G_sub [0, 1] rfl (b_X12_or_0 (fun c0 => by unfold e_X12_or at hK; rw [if_pos c0] at hK; exact hK) (fun c0 => by unfold e_X12_or at hK; rw [if_neg c0] at hK; exact hK)))
theorem d_X12_atOf_0 : decode cX12_atOf 0 = .ok (.aload_n 0, 1) := by decide +kernel
theorem d_X12_atOf_1 : decode cX12_atOf 1 = .ok (.getfield 7, 3) := by decide +kernel
theorem d_X12_atOf_4 : decode cX12_atOf 4 = .ok (.bipush 6, 2) := by decide +kernel
theorem d_X12_atOf_6 : decode cX12_atOf 6 = .ok (.bipush 6, 2) := by decide +kernel
theorem d_X12_atOf_8 : decode cX12_atOf 8 = .ok (.iload_n 1, 1) := by decide +kernel
theorem d_X12_atOf_9 : decode cX12_atOf 9 = .ok (.imul, 1) := by decide +kernel
theorem d_X12_atOf_10 : decode cX12_atOf 10 = .ok (.iadd, 1) := by decide +kernel
theorem d_X12_atOf_11 : decode cX12_atOf 11 = .ok (.iload_n 2, 1) := by decide +kernel
theorem d_X12_atOf_12 : decode cX12_atOf 12 = .ok (.iadd, 1) := by decide +kernel
theorem d_X12_atOf_13 : decode cX12_atOf 13 = .ok (.iaload, 1) := by decide +kernel
theorem d_X12_atOf_14 : decode cX12_atOf 14 = .ok (.ireturn, 1) := by decide +kernel
theorem b_X12_atOf_0 {X : cX} {d : Nat} {μ : mM} {K : Option Value → mM → Prop} {r0 : Nat} {i1 : Nat} {i2 : Nat} (hw12_r0 : WF12 μ r0) (hb : ((6 + (6 * i1)) + i2) < 366) (hK : K (some (.int (iv μ (r0 + 1) ((6 + (6 * i1)) + i2)))) μ) : G X (Rm d) mX12_atOf 0 [(0, .ref r0), (1, .int (nI i1)), (2, .int (nI i2))] [] μ 0 0 K := by
  refine G_aload_n d_X12_atOf_0 rfl 0 rfl ?_
  refine G_getR (r := r0 + 1) 12 0 (w12_kd hw12_r0) (w12_f0 hw12_r0) cok12 (by decide) rfl fl_X12_7 d_X12_atOf_1 ?_
  refine G_bipush d_X12_atOf_4 bp_6 ?_
  refine G_bipush d_X12_atOf_6 bp_6 ?_
  refine G_iload_n d_X12_atOf_8 rfl 1 rfl ?_
  refine G_imul d_X12_atOf_9 ?_
  refine G_iadd d_X12_atOf_10 ?_
  refine G_iload_n d_X12_atOf_11 rfl 2 rfl ?_
  refine G_iadd d_X12_atOf_12 ?_
  refine G_iald ((6 + (6 * i1)) + i2) (w12_k0 hw12_r0) (nadd (nadd rfl (nmul rfl rfl)) rfl) hb d_X12_atOf_13 ?_
  exact G_iret rfl rfl rfl d_X12_atOf_14 hK
def e_X12_atOf (μ : mM) (r0 : Nat) (i1 : Nat) (i2 : Nat) : Int32 := (iv μ (r0 + 1) ((6 + (6 * i1)) + i2))
theorem s_X12_atOf {X : cX} {d : Nat} {μ : mM} {K : Option Value → mM → Prop} {r0 : Nat} {i1 : Nat} {i2 : Nat} (hw12_r0 : WF12 μ r0) (hb : ((6 + (6 * i1)) + i2) < 366) (hK : K (some (.int (e_X12_atOf μ r0 i1 i2))) μ) : Ct X (Rm d) mX12_atOf [.ref r0, .int (nI i1), .int (nI i2)] μ K := Ct_of rfl (Nat.le_of_ble_eq_true rfl) (G_sub [0, 1, 2] rfl (b_X12_atOf_0 hw12_r0 hb hK))
theorem d_X12_nextOf_0 : decode cX12_nextOf 0 = .ok (.aload_n 0, 1) := by decide +kernel
theorem d_X12_nextOf_1 : decode cX12_nextOf 1 = .ok (.getfield 7, 3) := by decide +kernel
theorem d_X12_nextOf_4 : decode cX12_nextOf 4 = .ok (.bipush 24, 2) := by decide +kernel
theorem d_X12_nextOf_6 : decode cX12_nextOf 6 = .ok (.bipush 6, 2) := by decide +kernel
theorem d_X12_nextOf_8 : decode cX12_nextOf 8 = .ok (.iload_n 1, 1) := by decide +kernel
theorem d_X12_nextOf_9 : decode cX12_nextOf 9 = .ok (.imul, 1) := by decide +kernel
theorem d_X12_nextOf_10 : decode cX12_nextOf 10 = .ok (.iadd, 1) := by decide +kernel
theorem d_X12_nextOf_11 : decode cX12_nextOf 11 = .ok (.iload_n 2, 1) := by decide +kernel
theorem d_X12_nextOf_12 : decode cX12_nextOf 12 = .ok (.iadd, 1) := by decide +kernel
theorem d_X12_nextOf_13 : decode cX12_nextOf 13 = .ok (.iaload, 1) := by decide +kernel
theorem d_X12_nextOf_14 : decode cX12_nextOf 14 = .ok (.ireturn, 1) := by decide +kernel
theorem b_X12_nextOf_0 {X : cX} {d : Nat} {μ : mM} {K : Option Value → mM → Prop} {r0 : Nat} {i1 : Nat} {i2 : Nat} (hw12_r0 : WF12 μ r0) (hb : ((24 + (6 * i1)) + i2) < 366) (hK : K (some (.int (iv μ (r0 + 1) ((24 + (6 * i1)) + i2)))) μ) : G X (Rm d) mX12_nextOf 0 [(0, .ref r0), (1, .int (nI i1)), (2, .int (nI i2))] [] μ 0 0 K := by
  refine G_aload_n d_X12_nextOf_0 rfl 0 rfl ?_
  refine G_getR (r := r0 + 1) 12 0 (w12_kd hw12_r0) (w12_f0 hw12_r0) cok12 (by decide) rfl fl_X12_7 d_X12_nextOf_1 ?_
  refine G_bipush d_X12_nextOf_4 bp_24 ?_
  refine G_bipush d_X12_nextOf_6 bp_6 ?_
  refine G_iload_n d_X12_nextOf_8 rfl 1 rfl ?_
  refine G_imul d_X12_nextOf_9 ?_
  refine G_iadd d_X12_nextOf_10 ?_
  refine G_iload_n d_X12_nextOf_11 rfl 2 rfl ?_
  refine G_iadd d_X12_nextOf_12 ?_
  refine G_iald ((24 + (6 * i1)) + i2) (w12_k0 hw12_r0) (nadd (nadd rfl (nmul rfl rfl)) rfl) hb d_X12_nextOf_13 ?_
  exact G_iret rfl rfl rfl d_X12_nextOf_14 hK
def e_X12_nextOf (μ : mM) (r0 : Nat) (i1 : Nat) (i2 : Nat) : Int32 := (iv μ (r0 + 1) ((24 + (6 * i1)) + i2))
theorem s_X12_nextOf {X : cX} {d : Nat} {μ : mM} {K : Option Value → mM → Prop} {r0 : Nat} {i1 : Nat} {i2 : Nat} (hw12_r0 : WF12 μ r0) (hb : ((24 + (6 * i1)) + i2) < 366) (hK : K (some (.int (e_X12_nextOf μ r0 i1 i2))) μ) : Ct X (Rm d) mX12_nextOf [.ref r0, .int (nI i1), .int (nI i2)] μ K := Ct_of rfl (Nat.le_of_ble_eq_true rfl) (G_sub [0, 1, 2] rfl (b_X12_nextOf_0 hw12_r0 hb hK))
theorem d_X12_sameOf_0 : decode cX12_sameOf 0 = .ok (.iload_n 1, 1) := by decide +kernel
theorem d_X12_sameOf_1 : decode cX12_sameOf 1 = .ok (.iload_n 2, 1) := by decide +kernel
theorem d_X12_sameOf_2 : decode cX12_sameOf 2 = .ok (.if_icmp .eq 7, 3) := by decide +kernel
theorem d_X12_sameOf_5 : decode cX12_sameOf 5 = .ok (.iconst 0, 1) := by decide +kernel
theorem d_X12_sameOf_6 : decode cX12_sameOf 6 = .ok (.goto 18, 3) := by decide +kernel
theorem d_X12_sameOf_9 : decode cX12_sameOf 9 = .ok (.aload_n 0, 1) := by decide +kernel
theorem d_X12_sameOf_10 : decode cX12_sameOf 10 = .ok (.getfield 7, 3) := by decide +kernel
theorem d_X12_sameOf_13 : decode cX12_sameOf 13 = .ok (.iload_n 1, 1) := by decide +kernel
theorem d_X12_sameOf_14 : decode cX12_sameOf 14 = .ok (.iaload, 1) := by decide +kernel
theorem d_X12_sameOf_15 : decode cX12_sameOf 15 = .ok (.iconst 1, 1) := by decide +kernel
theorem d_X12_sameOf_16 : decode cX12_sameOf 16 = .ok (.if_icmp .ne 7, 3) := by decide +kernel
theorem d_X12_sameOf_19 : decode cX12_sameOf 19 = .ok (.iconst 1, 1) := by decide +kernel
theorem d_X12_sameOf_20 : decode cX12_sameOf 20 = .ok (.goto 4, 3) := by decide +kernel
theorem d_X12_sameOf_23 : decode cX12_sameOf 23 = .ok (.iconst 2, 1) := by decide +kernel
theorem d_X12_sameOf_24 : decode cX12_sameOf 24 = .ok (.ireturn, 1) := by decide +kernel
theorem b_X12_sameOf_0 {X : cX} {d : Nat} {μ : mM} {K : Option Value → mM → Prop} {r0 : Nat} {i1 : Nat} {l2 : Int32} (hw12_r0 : WF12 μ r0) (hb : (nI i1) = l2 → i1 < 366) (hK : (nI i1) = l2 → ¬ (iv μ (r0 + 1) i1) = (1 : Int32) → K (some (.int 2)) μ) (hK_2 : (nI i1) = l2 → (iv μ (r0 + 1) i1) = (1 : Int32) → K (some (.int 1)) μ) (hK_3 : ¬ (nI i1) = l2 → K (some (.int 0)) μ) : G X (Rm d) mX12_sameOf 0 [(0, .ref r0), (1, .int (nI i1)), (2, .int l2)] [] μ 0 0 K := by
  refine G_iload_n d_X12_sameOf_0 rfl 1 rfl ?_
  refine G_iload_n d_X12_sameOf_1 rfl 2 rfl ?_
  refine G_icmp_eq (tgt := 9) d_X12_sameOf_2 rfl (fun c0 => ?_) (fun c0 => ?_)
  ·
    refine G_aload_n d_X12_sameOf_9 rfl 0 rfl ?_
    refine G_getR (r := r0 + 1) 12 0 (w12_kd hw12_r0) (w12_f0 hw12_r0) cok12 (by decide) rfl fl_X12_7 d_X12_sameOf_10 ?_
    refine G_iload_n d_X12_sameOf_13 rfl 1 rfl ?_
    refine G_iald i1 (w12_k0 hw12_r0) rfl (hb c0) d_X12_sameOf_14 ?_
    refine G_iconst d_X12_sameOf_15 ic_1 ?_
    refine G_icmp_ne (tgt := 23) d_X12_sameOf_16 rfl (fun c1 => ?_) (fun c1 => ?_)
    ·
      refine G_iconst d_X12_sameOf_23 ic_2 ?_
      exact G_iret rfl rfl rfl d_X12_sameOf_24 (hK c0 c1)
    ·
      refine G_iconst d_X12_sameOf_19 ic_1 ?_
      refine G_goto (tgt := 24) d_X12_sameOf_20 rfl ?_
      exact G_iret rfl rfl rfl d_X12_sameOf_24 (hK_2 c0 c1)
  ·
    refine G_iconst d_X12_sameOf_5 ic_0 ?_
    refine G_goto (tgt := 24) d_X12_sameOf_6 rfl ?_
    exact G_iret rfl rfl rfl d_X12_sameOf_24 (hK_3 c0)
def e_X12_sameOf (μ : mM) (r0 : Nat) (i1 : Nat) (l2 : Int32) : Int32 := (if (nI i1) = l2 then (if (iv μ (r0 + 1) i1) = (1 : Int32) then 1 else 2) else 0)
theorem s_X12_sameOf {X : cX} {d : Nat} {μ : mM} {K : Option Value → mM → Prop} {r0 : Nat} {i1 : Nat} {l2 : Int32} (hw12_r0 : WF12 μ r0) (hb : (nI i1) = l2 → i1 < 366) (hK : K (some (.int (e_X12_sameOf μ r0 i1 l2))) μ) : Ct X (Rm d) mX12_sameOf [.ref r0, .int (nI i1), .int l2] μ K := Ct_of rfl (Nat.le_of_ble_eq_true rfl) (G_sub [0, 1, 2] rfl (b_X12_sameOf_0 hw12_r0 hb (fun c0 c1 => by unfold e_X12_sameOf at hK; rw [if_pos c0, if_neg c1] at hK; exact hK) (fun c0 c1 => by unfold e_X12_sameOf at hK; rw [if_pos c0, if_pos c1] at hK; exact hK) (fun c0 => by unfold e_X12_sameOf at hK; rw [if_neg c0] at hK; exact hK)))
theorem d_X12_routesAll_0 : decode cX12_routesAll 0 = .ok (.iconst 0, 1) := by decide +kernel
theorem d_X12_routesAll_1 : decode cX12_routesAll 1 = .ok (.istore_n 1, 1) := by decide +kernel
theorem d_X12_routesAll_2 : decode cX12_routesAll 2 = .ok (.iload_n 1, 1) := by decide +kernel
theorem d_X12_routesAll_3 : decode cX12_routesAll 3 = .ok (.bipush 36, 2) := by decide +kernel
theorem d_X12_routesAll_5 : decode cX12_routesAll 5 = .ok (.if_icmp .ge 24, 3) := by decide +kernel
theorem d_X12_routesAll_8 : decode cX12_routesAll 8 = .ok (.aload_n 0, 1) := by decide +kernel
theorem d_X12_routesAll_9 : decode cX12_routesAll 9 = .ok (.getfield 28, 3) := by decide +kernel
theorem d_X12_routesAll_12 : decode cX12_routesAll 12 = .ok (.iload_n 1, 1) := by decide +kernel
theorem d_X12_routesAll_13 : decode cX12_routesAll 13 = .ok (.aload_n 0, 1) := by decide +kernel
theorem d_X12_routesAll_14 : decode cX12_routesAll 14 = .ok (.getfield 7, 3) := by decide +kernel
theorem d_X12_routesAll_17 : decode cX12_routesAll 17 = .ok (.bipush 24, 2) := by decide +kernel
theorem d_X12_routesAll_19 : decode cX12_routesAll 19 = .ok (.iload_n 1, 1) := by decide +kernel
theorem d_X12_routesAll_20 : decode cX12_routesAll 20 = .ok (.iadd, 1) := by decide +kernel
theorem d_X12_routesAll_21 : decode cX12_routesAll 21 = .ok (.iaload, 1) := by decide +kernel
theorem d_X12_routesAll_22 : decode cX12_routesAll 22 = .ok (.iastore, 1) := by decide +kernel
theorem d_X12_routesAll_23 : decode cX12_routesAll 23 = .ok (.iinc 1 1, 3) := by decide +kernel
theorem d_X12_routesAll_26 : decode cX12_routesAll 26 = .ok (.goto (-24), 3) := by decide +kernel
theorem d_X12_routesAll_29 : decode cX12_routesAll 29 = .ok (.iconst 0, 1) := by decide +kernel
theorem d_X12_routesAll_30 : decode cX12_routesAll 30 = .ok (.istore_n 1, 1) := by decide +kernel
theorem d_X12_routesAll_31 : decode cX12_routesAll 31 = .ok (.iload_n 1, 1) := by decide +kernel
theorem d_X12_routesAll_32 : decode cX12_routesAll 32 = .ok (.aload_n 0, 1) := by decide +kernel
theorem d_X12_routesAll_33 : decode cX12_routesAll 33 = .ok (.invokevirtual 169, 3) := by decide +kernel
theorem d_X12_routesAll_36 : decode cX12_routesAll 36 = .ok (.if_icmp .ge 69, 3) := by decide +kernel
theorem d_X12_routesAll_39 : decode cX12_routesAll 39 = .ok (.iconst 0, 1) := by decide +kernel
theorem d_X12_routesAll_40 : decode cX12_routesAll 40 = .ok (.istore_n 2, 1) := by decide +kernel
theorem d_X12_routesAll_41 : decode cX12_routesAll 41 = .ok (.iload_n 2, 1) := by decide +kernel
theorem d_X12_routesAll_42 : decode cX12_routesAll 42 = .ok (.bipush 36, 2) := by decide +kernel
theorem d_X12_routesAll_44 : decode cX12_routesAll 44 = .ok (.if_icmp .ge 55, 3) := by decide +kernel
theorem d_X12_routesAll_47 : decode cX12_routesAll 47 = .ok (.aload_n 0, 1) := by decide +kernel
theorem d_X12_routesAll_48 : decode cX12_routesAll 48 = .ok (.getfield 28, 3) := by decide +kernel
theorem d_X12_routesAll_51 : decode cX12_routesAll 51 = .ok (.iload_n 2, 1) := by decide +kernel
theorem d_X12_routesAll_52 : decode cX12_routesAll 52 = .ok (.aload_n 0, 1) := by decide +kernel
theorem d_X12_routesAll_53 : decode cX12_routesAll 53 = .ok (.getfield 28, 3) := by decide +kernel
theorem d_X12_routesAll_56 : decode cX12_routesAll 56 = .ok (.iload_n 2, 1) := by decide +kernel
theorem d_X12_routesAll_57 : decode cX12_routesAll 57 = .ok (.iaload, 1) := by decide +kernel
theorem d_X12_routesAll_58 : decode cX12_routesAll 58 = .ok (.aload_n 0, 1) := by decide +kernel
theorem d_X12_routesAll_59 : decode cX12_routesAll 59 = .ok (.getfield 28, 3) := by decide +kernel
theorem d_X12_routesAll_62 : decode cX12_routesAll 62 = .ok (.iload_n 2, 1) := by decide +kernel
theorem d_X12_routesAll_63 : decode cX12_routesAll 63 = .ok (.bipush 6, 2) := by decide +kernel
theorem d_X12_routesAll_65 : decode cX12_routesAll 65 = .ok (.idiv, 1) := by decide +kernel
theorem d_X12_routesAll_66 : decode cX12_routesAll 66 = .ok (.bipush 6, 2) := by decide +kernel
theorem d_X12_routesAll_68 : decode cX12_routesAll 68 = .ok (.imul, 1) := by decide +kernel
theorem d_X12_routesAll_69 : decode cX12_routesAll 69 = .ok (.iload_n 1, 1) := by decide +kernel
theorem d_X12_routesAll_70 : decode cX12_routesAll 70 = .ok (.iadd, 1) := by decide +kernel
theorem d_X12_routesAll_71 : decode cX12_routesAll 71 = .ok (.iaload, 1) := by decide +kernel
theorem d_X12_routesAll_72 : decode cX12_routesAll 72 = .ok (.aload_n 0, 1) := by decide +kernel
theorem d_X12_routesAll_73 : decode cX12_routesAll 73 = .ok (.getfield 28, 3) := by decide +kernel
theorem d_X12_routesAll_76 : decode cX12_routesAll 76 = .ok (.bipush 6, 2) := by decide +kernel
theorem d_X12_routesAll_78 : decode cX12_routesAll 78 = .ok (.iload_n 1, 1) := by decide +kernel
theorem d_X12_routesAll_79 : decode cX12_routesAll 79 = .ok (.imul, 1) := by decide +kernel
theorem d_X12_routesAll_80 : decode cX12_routesAll 80 = .ok (.iload_n 2, 1) := by decide +kernel
theorem d_X12_routesAll_81 : decode cX12_routesAll 81 = .ok (.bipush 6, 2) := by decide +kernel
theorem d_X12_routesAll_83 : decode cX12_routesAll 83 = .ok (.irem, 1) := by decide +kernel
theorem d_X12_routesAll_84 : decode cX12_routesAll 84 = .ok (.iadd, 1) := by decide +kernel
theorem d_X12_routesAll_85 : decode cX12_routesAll 85 = .ok (.iaload, 1) := by decide +kernel
theorem d_X12_routesAll_86 : decode cX12_routesAll 86 = .ok (.invokestatic 172, 3) := by decide +kernel
theorem d_X12_routesAll_89 : decode cX12_routesAll 89 = .ok (.invokestatic 175, 3) := by decide +kernel
theorem d_X12_routesAll_92 : decode cX12_routesAll 92 = .ok (.iastore, 1) := by decide +kernel
theorem d_X12_routesAll_93 : decode cX12_routesAll 93 = .ok (.iinc 2 1, 3) := by decide +kernel
theorem d_X12_routesAll_96 : decode cX12_routesAll 96 = .ok (.goto (-55), 3) := by decide +kernel
theorem d_X12_routesAll_99 : decode cX12_routesAll 99 = .ok (.iinc 1 1, 3) := by decide +kernel
theorem d_X12_routesAll_102 : decode cX12_routesAll 102 = .ok (.goto (-71), 3) := by decide +kernel
theorem d_X12_routesAll_105 : decode cX12_routesAll 105 = .ok (.return_, 1) := by decide +kernel
theorem b_X12_routesAll_0 {X : cX} {d : Nat} {μ : mM} {K : Option Value → mM → Prop} {r0 : Nat} (h : G X (Rm (d + 1)) mX12_routesAll 2 [(0, .ref r0), (1, .int (nI 0))] [] μ 0 0 K) : G X (Rm (d + 1)) mX12_routesAll 0 [(0, .ref r0)] [] μ 0 0 K := by
  refine G_iconst d_X12_routesAll_0 ic_0 ?_
  refine G_istore_n (L' := [(1, .int (nI 0)), (0, .ref r0)]) d_X12_routesAll_1 rfl (by decide) rfl ?_
  refine G_sub (L' := [(0, .ref r0), (1, .int (nI 0))]) [1, 0] rfl ?_
  exact h
theorem b_X12_routesAll_2 {X : cX} {d : Nat} {μ : mM} {K : Option Value → mM → Prop} {r0 : Nat} {i1 : Nat} (h : (36 : Int32) ≤ (nI i1) → G X (Rm (d + 1)) mX12_routesAll 31 [(0, .ref r0), (1, .int (nI 0))] [] μ 0 0 K) (hw12_r0 : WF12 μ r0) (hb : ¬ (36 : Int32) ≤ (nI i1) → (24 + i1) < 366) (hb_2 : ¬ (36 : Int32) ≤ (nI i1) → i1 < 36) (h_2 : ¬ (36 : Int32) ≤ (nI i1) → G X (Rm (d + 1)) mX12_routesAll 2 [(0, .ref r0), (1, .int (nI (i1 + 1)))] [] (wi μ (r0 + 7) i1 (iv μ (r0 + 1) (24 + i1))) 0 0 K) : G X (Rm (d + 1)) mX12_routesAll 2 [(0, .ref r0), (1, .int (nI i1))] [] μ 0 0 K := by
  refine G_iload_n d_X12_routesAll_2 rfl 1 rfl ?_
  refine G_bipush d_X12_routesAll_3 bp_36 ?_
  refine G_icmp_ge (tgt := 29) d_X12_routesAll_5 rfl (fun c0 => ?_) (fun c0 => ?_)
  ·
    refine G_iconst d_X12_routesAll_29 ic_0 ?_
    refine G_istore_n (L' := [(1, .int (nI 0)), (0, .ref r0)]) d_X12_routesAll_30 rfl (by decide) rfl ?_
    refine G_sub (L' := [(0, .ref r0), (1, .int (nI 0))]) [1, 0] rfl ?_
    exact (h c0)
  ·
    refine G_aload_n d_X12_routesAll_8 rfl 0 rfl ?_
    refine G_getR (r := r0 + 7) 12 17 (w12_kd hw12_r0) (w12_f17 hw12_r0) cok12 (by decide) rfl fl_X12_28 d_X12_routesAll_9 ?_
    refine G_iload_n d_X12_routesAll_12 rfl 1 rfl ?_
    refine G_aload_n d_X12_routesAll_13 rfl 0 rfl ?_
    refine G_getR (r := r0 + 1) 12 0 (w12_kd hw12_r0) (w12_f0 hw12_r0) cok12 (by decide) rfl fl_X12_7 d_X12_routesAll_14 ?_
    refine G_bipush d_X12_routesAll_17 bp_24 ?_
    refine G_iload_n d_X12_routesAll_19 rfl 1 rfl ?_
    refine G_iadd d_X12_routesAll_20 ?_
    refine G_iald (24 + i1) (w12_k0 hw12_r0) (nadd rfl rfl) (hb c0) d_X12_routesAll_21 ?_
    refine G_iast i1 (w12_k17 hw12_r0) rfl (hb_2 c0) d_X12_routesAll_22 ?_
    refine G_iinc (L' := [(1, .int (nI (i1 + 1))), (0, .ref r0)]) d_X12_routesAll_23 1 rfl (inc1 i1) (by decide) rfl ?_
    refine G_goto (tgt := 2) d_X12_routesAll_26 rfl ?_
    refine G_sub (L' := [(0, .ref r0), (1, .int (nI (i1 + 1)))]) [1, 0] rfl ?_
    exact (h_2 c0)
theorem b_X12_routesAll_31 {X : cX} {d : Nat} {μ : mM} {K : Option Value → mM → Prop} {r0 : Nat} {l1 : Int32} (hw12_r0 : WF12 μ r0) (hK : (e_X12_nodes μ r0) ≤ l1 → K none μ) (h : ¬ (e_X12_nodes μ r0) ≤ l1 → G X (Rm (d + 1)) mX12_routesAll 41 [(0, .ref r0), (1, .int l1), (2, .int (nI 0))] [] μ 0 0 K) : G X (Rm (d + 1)) mX12_routesAll 31 [(0, .ref r0), (1, .int l1)] [] μ 0 0 K := by
  refine G_iload_n d_X12_routesAll_31 rfl 1 rfl ?_
  refine G_aload_n d_X12_routesAll_32 rfl 0 rfl ?_
  refine G_callV (M' := mX12_nodes) (R' := (Rm d)) (S := [.int l1]) [] 12 (w12_kd hw12_r0) cok12 rfl ok_X12_nodes ml_X12_169 pn_X12_nodes (ru_Rm (by decide)) (Nat.le_of_ble_eq_true rfl) d_X12_routesAll_33 (s_X12_nodes (μ := μ)  hw12_r0 ?_)
  show G X (Rm (d + 1)) mX12_routesAll 36 [(0, .ref r0), (1, .int l1)] [.int (e_X12_nodes μ r0), .int l1] μ 0 0 K
  refine G_icmp_ge (tgt := 105) d_X12_routesAll_36 rfl (fun c0 => ?_) (fun c0 => ?_)
  ·
    exact G_vret rfl rfl rfl d_X12_routesAll_105 (hK c0)
  ·
    refine G_iconst d_X12_routesAll_39 ic_0 ?_
    refine G_istore_n (L' := [(2, .int (nI 0)), (0, .ref r0), (1, .int l1)]) d_X12_routesAll_40 rfl (by decide) rfl ?_
    refine G_sub (L' := [(0, .ref r0), (1, .int l1), (2, .int (nI 0))]) [1, 2, 0] rfl ?_
    exact (h c0)
theorem b_X12_routesAll_41 {X : cX} {d : Nat} {μ : mM} {K : Option Value → mM → Prop} {r0 : Nat} {i1 : Nat} {i2 : Nat} {j0 : Nat} {j1 : Nat} (h : (36 : Int32) ≤ (nI i2) → G X (Rm (d + 1)) mX12_routesAll 31 [(0, .ref r0), (1, .int (nI (i1 + 1)))] [] μ 0 0 K) (hw12_r0 : WF12 μ r0) (hb : ¬ (36 : Int32) ≤ (nI i2) → i2 < 36) (hi_j0 : ¬ (36 : Int32) ≤ (nI i2) → (((nI i2) / 6) * 6) + (nI i1) = nI j0) (hb_2 : ¬ (36 : Int32) ≤ (nI i2) → j0 < 36) (hi_j1 : ¬ (36 : Int32) ≤ (nI i2) → ((6 : Int32) * (nI i1)) + ((nI i2) - (nI i2) / 6 * 6) = nI j1) (hb_3 : ¬ (36 : Int32) ≤ (nI i2) → j1 < 36) (h_2 : ¬ (36 : Int32) ≤ (nI i2) → G X (Rm (d + 1)) mX12_routesAll 41 [(0, .ref r0), (1, .int (nI i1)), (2, .int (nI (i2 + 1)))] [] (wi μ (r0 + 7) i2 (e_X12_or μ (iv μ (r0 + 7) i2) (e_X12_and μ (iv μ (r0 + 7) j0) (iv μ (r0 + 7) j1)))) 0 0 K) : G X (Rm (d + 1)) mX12_routesAll 41 [(0, .ref r0), (1, .int (nI i1)), (2, .int (nI i2))] [] μ 0 0 K := by
  refine G_iload_n d_X12_routesAll_41 rfl 2 rfl ?_
  refine G_bipush d_X12_routesAll_42 bp_36 ?_
  refine G_icmp_ge (tgt := 99) d_X12_routesAll_44 rfl (fun c0 => ?_) (fun c0 => ?_)
  ·
    refine G_iinc (L' := [(1, .int (nI (i1 + 1))), (0, .ref r0), (2, .int (nI i2))]) d_X12_routesAll_99 1 rfl (inc1 i1) (by decide) rfl ?_
    refine G_goto (tgt := 31) d_X12_routesAll_102 rfl ?_
    refine G_sub (L' := [(0, .ref r0), (1, .int (nI (i1 + 1)))]) [1, 0] rfl ?_
    exact (h c0)
  ·
    refine G_aload_n d_X12_routesAll_47 rfl 0 rfl ?_
    refine G_getR (r := r0 + 7) 12 17 (w12_kd hw12_r0) (w12_f17 hw12_r0) cok12 (by decide) rfl fl_X12_28 d_X12_routesAll_48 ?_
    refine G_iload_n d_X12_routesAll_51 rfl 2 rfl ?_
    refine G_aload_n d_X12_routesAll_52 rfl 0 rfl ?_
    refine G_getR (r := r0 + 7) 12 17 (w12_kd hw12_r0) (w12_f17 hw12_r0) cok12 (by decide) rfl fl_X12_28 d_X12_routesAll_53 ?_
    refine G_iload_n d_X12_routesAll_56 rfl 2 rfl ?_
    refine G_iald i2 (w12_k17 hw12_r0) rfl (hb c0) d_X12_routesAll_57 ?_
    refine G_aload_n d_X12_routesAll_58 rfl 0 rfl ?_
    refine G_getR (r := r0 + 7) 12 17 (w12_kd hw12_r0) (w12_f17 hw12_r0) cok12 (by decide) rfl fl_X12_28 d_X12_routesAll_59 ?_
    refine G_iload_n d_X12_routesAll_62 rfl 2 rfl ?_
    refine G_bipush d_X12_routesAll_63 bp_6 ?_
    refine G_idiv d_X12_routesAll_65 (by decide) ?_
    refine G_bipush d_X12_routesAll_66 bp_6 ?_
    refine G_imul d_X12_routesAll_68 ?_
    refine G_iload_n d_X12_routesAll_69 rfl 1 rfl ?_
    refine G_iadd d_X12_routesAll_70 ?_
    refine G_iald j0 (w12_k17 hw12_r0) (hi_j0 c0) (hb_2 c0) d_X12_routesAll_71 ?_
    refine G_aload_n d_X12_routesAll_72 rfl 0 rfl ?_
    refine G_getR (r := r0 + 7) 12 17 (w12_kd hw12_r0) (w12_f17 hw12_r0) cok12 (by decide) rfl fl_X12_28 d_X12_routesAll_73 ?_
    refine G_bipush d_X12_routesAll_76 bp_6 ?_
    refine G_iload_n d_X12_routesAll_78 rfl 1 rfl ?_
    refine G_imul d_X12_routesAll_79 ?_
    refine G_iload_n d_X12_routesAll_80 rfl 2 rfl ?_
    refine G_bipush d_X12_routesAll_81 bp_6 ?_
    refine G_irem d_X12_routesAll_83 (by decide) ?_
    refine G_iadd d_X12_routesAll_84 ?_
    refine G_iald j1 (w12_k17 hw12_r0) (hi_j1 c0) (hb_3 c0) d_X12_routesAll_85 ?_
    refine G_callS (M' := mX12_and) (R' := (Rm d)) (S := [.int (iv μ (r0 + 7) i2), .int (nI i2), .ref (r0 + 7)]) [.int (iv μ (r0 + 7) j0), .int (iv μ (r0 + 7) j1)] ok_X12_and ml_X12_172 pn_X12_and (ru_Rm (by decide)) (Nat.le_of_ble_eq_true rfl) d_X12_routesAll_86 (s_X12_and (μ := μ)   ?_)
    show G X (Rm (d + 1)) mX12_routesAll 89 [(0, .ref r0), (1, .int (nI i1)), (2, .int (nI i2))] [.int (e_X12_and μ (iv μ (r0 + 7) j0) (iv μ (r0 + 7) j1)), .int (iv μ (r0 + 7) i2), .int (nI i2), .ref (r0 + 7)] μ 0 0 K
    refine G_callS (M' := mX12_or) (R' := (Rm d)) (S := [.int (nI i2), .ref (r0 + 7)]) [.int (iv μ (r0 + 7) i2), .int (e_X12_and μ (iv μ (r0 + 7) j0) (iv μ (r0 + 7) j1))] ok_X12_or ml_X12_175 pn_X12_or (ru_Rm (by decide)) (Nat.le_of_ble_eq_true rfl) d_X12_routesAll_89 (s_X12_or (μ := μ)   ?_)
    show G X (Rm (d + 1)) mX12_routesAll 92 [(0, .ref r0), (1, .int (nI i1)), (2, .int (nI i2))] [.int (e_X12_or μ (iv μ (r0 + 7) i2) (e_X12_and μ (iv μ (r0 + 7) j0) (iv μ (r0 + 7) j1))), .int (nI i2), .ref (r0 + 7)] μ 0 0 K
    refine G_iast i2 (w12_k17 hw12_r0) rfl (hb c0) d_X12_routesAll_92 ?_
    refine G_iinc (L' := [(2, .int (nI (i2 + 1))), (0, .ref r0), (1, .int (nI i1))]) d_X12_routesAll_93 2 rfl (inc1 i2) (by decide) rfl ?_
    refine G_goto (tgt := 41) d_X12_routesAll_96 rfl ?_
    refine G_sub (L' := [(0, .ref r0), (1, .int (nI i1)), (2, .int (nI (i2 + 1)))]) [1, 2, 0] rfl ?_
    exact (h_2 c0)
theorem d_X12_reachOf_0 : decode cX12_reachOf 0 = .ok (.iconst 0, 1) := by decide +kernel
theorem d_X12_reachOf_1 : decode cX12_reachOf 1 = .ok (.istore_n 3, 1) := by decide +kernel
theorem d_X12_reachOf_2 : decode cX12_reachOf 2 = .ok (.iconst 0, 1) := by decide +kernel
theorem d_X12_reachOf_3 : decode cX12_reachOf 3 = .ok (.istore 4, 2) := by decide +kernel
theorem d_X12_reachOf_5 : decode cX12_reachOf 5 = .ok (.iload 4, 2) := by decide +kernel
theorem d_X12_reachOf_7 : decode cX12_reachOf 7 = .ok (.aload_n 0, 1) := by decide +kernel
theorem d_X12_reachOf_8 : decode cX12_reachOf 8 = .ok (.invokevirtual 169, 3) := by decide +kernel
theorem d_X12_reachOf_11 : decode cX12_reachOf 11 = .ok (.if_icmp .ge 46, 3) := by decide +kernel
theorem d_X12_reachOf_14 : decode cX12_reachOf 14 = .ok (.iload_n 3, 1) := by decide +kernel
theorem d_X12_reachOf_15 : decode cX12_reachOf 15 = .ok (.aload_n 0, 1) := by decide +kernel
theorem d_X12_reachOf_16 : decode cX12_reachOf 16 = .ok (.iload_n 1, 1) := by decide +kernel
theorem d_X12_reachOf_17 : decode cX12_reachOf 17 = .ok (.iload 4, 2) := by decide +kernel
theorem d_X12_reachOf_19 : decode cX12_reachOf 19 = .ok (.invokevirtual 178, 3) := by decide +kernel
theorem d_X12_reachOf_22 : decode cX12_reachOf 22 = .ok (.aload_n 0, 1) := by decide +kernel
theorem d_X12_reachOf_23 : decode cX12_reachOf 23 = .ok (.iload 4, 2) := by decide +kernel
theorem d_X12_reachOf_25 : decode cX12_reachOf 25 = .ok (.iload_n 2, 1) := by decide +kernel
theorem d_X12_reachOf_26 : decode cX12_reachOf 26 = .ok (.invokevirtual 181, 3) := by decide +kernel
theorem d_X12_reachOf_29 : decode cX12_reachOf 29 = .ok (.aload_n 0, 1) := by decide +kernel
theorem d_X12_reachOf_30 : decode cX12_reachOf 30 = .ok (.getfield 28, 3) := by decide +kernel
theorem d_X12_reachOf_33 : decode cX12_reachOf 33 = .ok (.bipush 6, 2) := by decide +kernel
theorem d_X12_reachOf_35 : decode cX12_reachOf 35 = .ok (.iload 4, 2) := by decide +kernel
theorem d_X12_reachOf_37 : decode cX12_reachOf 37 = .ok (.imul, 1) := by decide +kernel
theorem d_X12_reachOf_38 : decode cX12_reachOf 38 = .ok (.iload_n 2, 1) := by decide +kernel
theorem d_X12_reachOf_39 : decode cX12_reachOf 39 = .ok (.iadd, 1) := by decide +kernel
theorem d_X12_reachOf_40 : decode cX12_reachOf 40 = .ok (.iaload, 1) := by decide +kernel
theorem d_X12_reachOf_41 : decode cX12_reachOf 41 = .ok (.invokestatic 175, 3) := by decide +kernel
theorem d_X12_reachOf_44 : decode cX12_reachOf 44 = .ok (.invokestatic 172, 3) := by decide +kernel
theorem d_X12_reachOf_47 : decode cX12_reachOf 47 = .ok (.invokestatic 175, 3) := by decide +kernel
theorem d_X12_reachOf_50 : decode cX12_reachOf 50 = .ok (.istore_n 3, 1) := by decide +kernel
theorem d_X12_reachOf_51 : decode cX12_reachOf 51 = .ok (.iinc 4 1, 3) := by decide +kernel
theorem d_X12_reachOf_54 : decode cX12_reachOf 54 = .ok (.goto (-49), 3) := by decide +kernel
theorem d_X12_reachOf_57 : decode cX12_reachOf 57 = .ok (.iload_n 3, 1) := by decide +kernel
theorem d_X12_reachOf_58 : decode cX12_reachOf 58 = .ok (.ireturn, 1) := by decide +kernel
theorem b_X12_reachOf_0 {X : cX} {d : Nat} {μ : mM} {K : Option Value → mM → Prop} {r0 : Nat} {l1 : Int32} {l2 : Int32} (h : G X (Rm (d + 1)) mX12_reachOf 5 [(0, .ref r0), (1, .int l1), (2, .int l2), (3, .int 0), (4, .int (nI 0))] [] μ 0 0 K) : G X (Rm (d + 1)) mX12_reachOf 0 [(0, .ref r0), (1, .int l1), (2, .int l2)] [] μ 0 0 K := by
  refine G_iconst d_X12_reachOf_0 ic_0 ?_
  refine G_istore_n (L' := [(3, .int 0), (0, .ref r0), (1, .int l1), (2, .int l2)]) d_X12_reachOf_1 rfl (by decide) rfl ?_
  refine G_iconst d_X12_reachOf_2 ic_0 ?_
  refine G_istore (L' := [(4, .int (nI 0)), (3, .int 0), (0, .ref r0), (1, .int l1), (2, .int l2)]) d_X12_reachOf_3 (by decide) rfl ?_
  refine G_sub (L' := [(0, .ref r0), (1, .int l1), (2, .int l2), (3, .int 0), (4, .int (nI 0))]) [2, 3, 4, 1, 0] rfl ?_
  exact h
theorem b_X12_reachOf_5 {X : cX} {d : Nat} {μ : mM} {K : Option Value → mM → Prop} {r0 : Nat} {i1 : Nat} {i2 : Nat} {l3 : Int32} {i4 : Nat} (hw12_r0 : WF12 μ r0) (hK : (e_X12_nodes μ r0) ≤ (nI i4) → K (some (.int l3)) μ) (hs : ¬ (e_X12_nodes μ r0) ≤ (nI i4) → ((6 + (6 * i1)) + i4) < 366) (hs_2 : ¬ (e_X12_nodes μ r0) ≤ (nI i4) → ((nI i4) = (nI i2) → i4 < 366)) (hb : ¬ (e_X12_nodes μ r0) ≤ (nI i4) → ((6 * i4) + i2) < 36) (h : ¬ (e_X12_nodes μ r0) ≤ (nI i4) → G X (Rm (d + 1)) mX12_reachOf 5 [(0, .ref r0), (1, .int (nI i1)), (2, .int (nI i2)), (3, .int (e_X12_or μ l3 (e_X12_and μ (e_X12_atOf μ r0 i1 i4) (e_X12_or μ (e_X12_sameOf μ r0 i4 (nI i2)) (iv μ (r0 + 7) ((6 * i4) + i2)))))), (4, .int (nI (i4 + 1)))] [] μ 0 0 K) : G X (Rm (d + 1)) mX12_reachOf 5 [(0, .ref r0), (1, .int (nI i1)), (2, .int (nI i2)), (3, .int l3), (4, .int (nI i4))] [] μ 0 0 K := by
  refine G_iload d_X12_reachOf_5 4 rfl ?_
  refine G_aload_n d_X12_reachOf_7 rfl 0 rfl ?_
  refine G_callV (M' := mX12_nodes) (R' := (Rm d)) (S := [.int (nI i4)]) [] 12 (w12_kd hw12_r0) cok12 rfl ok_X12_nodes ml_X12_169 pn_X12_nodes (ru_Rm (by decide)) (Nat.le_of_ble_eq_true rfl) d_X12_reachOf_8 (s_X12_nodes (μ := μ)  hw12_r0 ?_)
  show G X (Rm (d + 1)) mX12_reachOf 11 [(0, .ref r0), (1, .int (nI i1)), (2, .int (nI i2)), (3, .int l3), (4, .int (nI i4))] [.int (e_X12_nodes μ r0), .int (nI i4)] μ 0 0 K
  refine G_icmp_ge (tgt := 57) d_X12_reachOf_11 rfl (fun c0 => ?_) (fun c0 => ?_)
  ·
    refine G_iload_n d_X12_reachOf_57 rfl 3 rfl ?_
    exact G_iret rfl rfl rfl d_X12_reachOf_58 (hK c0)
  ·
    refine G_iload_n d_X12_reachOf_14 rfl 3 rfl ?_
    refine G_aload_n d_X12_reachOf_15 rfl 0 rfl ?_
    refine G_iload_n d_X12_reachOf_16 rfl 1 rfl ?_
    refine G_iload d_X12_reachOf_17 4 rfl ?_
    refine G_callV (M' := mX12_atOf) (R' := (Rm d)) (S := [.int l3]) [.int (nI i1), .int (nI i4)] 12 (w12_kd hw12_r0) cok12 rfl ok_X12_atOf ml_X12_178 pn_X12_atOf (ru_Rm (by decide)) (Nat.le_of_ble_eq_true rfl) d_X12_reachOf_19 (s_X12_atOf (μ := μ) (i1 := i1) (i2 := i4) hw12_r0 (hs c0) ?_)
    show G X (Rm (d + 1)) mX12_reachOf 22 [(0, .ref r0), (1, .int (nI i1)), (2, .int (nI i2)), (3, .int l3), (4, .int (nI i4))] [.int (e_X12_atOf μ r0 i1 i4), .int l3] μ 0 0 K
    refine G_aload_n d_X12_reachOf_22 rfl 0 rfl ?_
    refine G_iload d_X12_reachOf_23 4 rfl ?_
    refine G_iload_n d_X12_reachOf_25 rfl 2 rfl ?_
    refine G_callV (M' := mX12_sameOf) (R' := (Rm d)) (S := [.int (e_X12_atOf μ r0 i1 i4), .int l3]) [.int (nI i4), .int (nI i2)] 12 (w12_kd hw12_r0) cok12 rfl ok_X12_sameOf ml_X12_181 pn_X12_sameOf (ru_Rm (by decide)) (Nat.le_of_ble_eq_true rfl) d_X12_reachOf_26 (s_X12_sameOf (μ := μ) (i1 := i4) hw12_r0 (hs_2 c0) ?_)
    show G X (Rm (d + 1)) mX12_reachOf 29 [(0, .ref r0), (1, .int (nI i1)), (2, .int (nI i2)), (3, .int l3), (4, .int (nI i4))] [.int (e_X12_sameOf μ r0 i4 (nI i2)), .int (e_X12_atOf μ r0 i1 i4), .int l3] μ 0 0 K
    refine G_aload_n d_X12_reachOf_29 rfl 0 rfl ?_
    refine G_getR (r := r0 + 7) 12 17 (w12_kd hw12_r0) (w12_f17 hw12_r0) cok12 (by decide) rfl fl_X12_28 d_X12_reachOf_30 ?_
    refine G_bipush d_X12_reachOf_33 bp_6 ?_
    refine G_iload d_X12_reachOf_35 4 rfl ?_
    refine G_imul d_X12_reachOf_37 ?_
    refine G_iload_n d_X12_reachOf_38 rfl 2 rfl ?_
    refine G_iadd d_X12_reachOf_39 ?_
    refine G_iald ((6 * i4) + i2) (w12_k17 hw12_r0) (nadd (nmul rfl rfl) rfl) (hb c0) d_X12_reachOf_40 ?_
    refine G_callS (M' := mX12_or) (R' := (Rm d)) (S := [.int (e_X12_atOf μ r0 i1 i4), .int l3]) [.int (e_X12_sameOf μ r0 i4 (nI i2)), .int (iv μ (r0 + 7) ((6 * i4) + i2))] ok_X12_or ml_X12_175 pn_X12_or (ru_Rm (by decide)) (Nat.le_of_ble_eq_true rfl) d_X12_reachOf_41 (s_X12_or (μ := μ)   ?_)
    show G X (Rm (d + 1)) mX12_reachOf 44 [(0, .ref r0), (1, .int (nI i1)), (2, .int (nI i2)), (3, .int l3), (4, .int (nI i4))] [.int (e_X12_or μ (e_X12_sameOf μ r0 i4 (nI i2)) (iv μ (r0 + 7) ((6 * i4) + i2))), .int (e_X12_atOf μ r0 i1 i4), .int l3] μ 0 0 K
    refine G_callS (M' := mX12_and) (R' := (Rm d)) (S := [.int l3]) [.int (e_X12_atOf μ r0 i1 i4), .int (e_X12_or μ (e_X12_sameOf μ r0 i4 (nI i2)) (iv μ (r0 + 7) ((6 * i4) + i2)))] ok_X12_and ml_X12_172 pn_X12_and (ru_Rm (by decide)) (Nat.le_of_ble_eq_true rfl) d_X12_reachOf_44 (s_X12_and (μ := μ)   ?_)
    show G X (Rm (d + 1)) mX12_reachOf 47 [(0, .ref r0), (1, .int (nI i1)), (2, .int (nI i2)), (3, .int l3), (4, .int (nI i4))] [.int (e_X12_and μ (e_X12_atOf μ r0 i1 i4) (e_X12_or μ (e_X12_sameOf μ r0 i4 (nI i2)) (iv μ (r0 + 7) ((6 * i4) + i2)))), .int l3] μ 0 0 K
    refine G_callS (M' := mX12_or) (R' := (Rm d)) (S := []) [.int l3, .int (e_X12_and μ (e_X12_atOf μ r0 i1 i4) (e_X12_or μ (e_X12_sameOf μ r0 i4 (nI i2)) (iv μ (r0 + 7) ((6 * i4) + i2))))] ok_X12_or ml_X12_175 pn_X12_or (ru_Rm (by decide)) (Nat.le_of_ble_eq_true rfl) d_X12_reachOf_47 (s_X12_or (μ := μ)   ?_)
    show G X (Rm (d + 1)) mX12_reachOf 50 [(0, .ref r0), (1, .int (nI i1)), (2, .int (nI i2)), (3, .int l3), (4, .int (nI i4))] [.int (e_X12_or μ l3 (e_X12_and μ (e_X12_atOf μ r0 i1 i4) (e_X12_or μ (e_X12_sameOf μ r0 i4 (nI i2)) (iv μ (r0 + 7) ((6 * i4) + i2)))))] μ 0 0 K
    refine G_istore_n (L' := [(3, .int (e_X12_or μ l3 (e_X12_and μ (e_X12_atOf μ r0 i1 i4) (e_X12_or μ (e_X12_sameOf μ r0 i4 (nI i2)) (iv μ (r0 + 7) ((6 * i4) + i2)))))), (0, .ref r0), (1, .int (nI i1)), (2, .int (nI i2)), (4, .int (nI i4))]) d_X12_reachOf_50 rfl (by decide) rfl ?_
    refine G_iinc (L' := [(4, .int (nI (i4 + 1))), (3, .int (e_X12_or μ l3 (e_X12_and μ (e_X12_atOf μ r0 i1 i4) (e_X12_or μ (e_X12_sameOf μ r0 i4 (nI i2)) (iv μ (r0 + 7) ((6 * i4) + i2)))))), (0, .ref r0), (1, .int (nI i1)), (2, .int (nI i2))]) d_X12_reachOf_51 4 rfl (inc1 i4) (by decide) rfl ?_
    refine G_goto (tgt := 5) d_X12_reachOf_54 rfl ?_
    refine G_sub (L' := [(0, .ref r0), (1, .int (nI i1)), (2, .int (nI i2)), (3, .int (e_X12_or μ l3 (e_X12_and μ (e_X12_atOf μ r0 i1 i4) (e_X12_or μ (e_X12_sameOf μ r0 i4 (nI i2)) (iv μ (r0 + 7) ((6 * i4) + i2)))))), (4, .int (nI (i4 + 1)))]) [2, 3, 4, 1, 0] rfl ?_
    exact (h c0)
theorem d_X12_heldOf_0 : decode cX12_heldOf 0 = .ok (.iconst 0, 1) := by decide +kernel
theorem d_X12_heldOf_1 : decode cX12_heldOf 1 = .ok (.istore_n 2, 1) := by decide +kernel
theorem d_X12_heldOf_2 : decode cX12_heldOf 2 = .ok (.iconst 0, 1) := by decide +kernel
theorem d_X12_heldOf_3 : decode cX12_heldOf 3 = .ok (.istore_n 3, 1) := by decide +kernel
theorem d_X12_heldOf_4 : decode cX12_heldOf 4 = .ok (.iload_n 3, 1) := by decide +kernel
theorem d_X12_heldOf_5 : decode cX12_heldOf 5 = .ok (.aload_n 0, 1) := by decide +kernel
theorem d_X12_heldOf_6 : decode cX12_heldOf 6 = .ok (.invokevirtual 169, 3) := by decide +kernel
theorem d_X12_heldOf_9 : decode cX12_heldOf 9 = .ok (.if_icmp .ge 20, 3) := by decide +kernel
theorem d_X12_heldOf_12 : decode cX12_heldOf 12 = .ok (.iload_n 2, 1) := by decide +kernel
theorem d_X12_heldOf_13 : decode cX12_heldOf 13 = .ok (.aload_n 0, 1) := by decide +kernel
theorem d_X12_heldOf_14 : decode cX12_heldOf 14 = .ok (.iload_n 1, 1) := by decide +kernel
theorem d_X12_heldOf_15 : decode cX12_heldOf 15 = .ok (.iload_n 3, 1) := by decide +kernel
theorem d_X12_heldOf_16 : decode cX12_heldOf 16 = .ok (.invokevirtual 178, 3) := by decide +kernel
theorem d_X12_heldOf_19 : decode cX12_heldOf 19 = .ok (.invokestatic 175, 3) := by decide +kernel
theorem d_X12_heldOf_22 : decode cX12_heldOf 22 = .ok (.istore_n 2, 1) := by decide +kernel
theorem d_X12_heldOf_23 : decode cX12_heldOf 23 = .ok (.iinc 3 1, 3) := by decide +kernel
theorem d_X12_heldOf_26 : decode cX12_heldOf 26 = .ok (.goto (-22), 3) := by decide +kernel
theorem d_X12_heldOf_29 : decode cX12_heldOf 29 = .ok (.iload_n 2, 1) := by decide +kernel
theorem d_X12_heldOf_30 : decode cX12_heldOf 30 = .ok (.ireturn, 1) := by decide +kernel
theorem b_X12_heldOf_0 {X : cX} {d : Nat} {μ : mM} {K : Option Value → mM → Prop} {r0 : Nat} {l1 : Int32} (h : G X (Rm (d + 1)) mX12_heldOf 4 [(0, .ref r0), (1, .int l1), (2, .int 0), (3, .int (nI 0))] [] μ 0 0 K) : G X (Rm (d + 1)) mX12_heldOf 0 [(0, .ref r0), (1, .int l1)] [] μ 0 0 K := by
  refine G_iconst d_X12_heldOf_0 ic_0 ?_
  refine G_istore_n (L' := [(2, .int 0), (0, .ref r0), (1, .int l1)]) d_X12_heldOf_1 rfl (by decide) rfl ?_
  refine G_iconst d_X12_heldOf_2 ic_0 ?_
  refine G_istore_n (L' := [(3, .int (nI 0)), (2, .int 0), (0, .ref r0), (1, .int l1)]) d_X12_heldOf_3 rfl (by decide) rfl ?_
  refine G_sub (L' := [(0, .ref r0), (1, .int l1), (2, .int 0), (3, .int (nI 0))]) [2, 3, 1, 0] rfl ?_
  exact h
theorem b_X12_heldOf_4 {X : cX} {d : Nat} {μ : mM} {K : Option Value → mM → Prop} {r0 : Nat} {i1 : Nat} {l2 : Int32} {i3 : Nat} (hw12_r0 : WF12 μ r0) (hK : (e_X12_nodes μ r0) ≤ (nI i3) → K (some (.int l2)) μ) (hs : ¬ (e_X12_nodes μ r0) ≤ (nI i3) → ((6 + (6 * i1)) + i3) < 366) (h : ¬ (e_X12_nodes μ r0) ≤ (nI i3) → G X (Rm (d + 1)) mX12_heldOf 4 [(0, .ref r0), (1, .int (nI i1)), (2, .int (e_X12_or μ l2 (e_X12_atOf μ r0 i1 i3))), (3, .int (nI (i3 + 1)))] [] μ 0 0 K) : G X (Rm (d + 1)) mX12_heldOf 4 [(0, .ref r0), (1, .int (nI i1)), (2, .int l2), (3, .int (nI i3))] [] μ 0 0 K := by
  refine G_iload_n d_X12_heldOf_4 rfl 3 rfl ?_
  refine G_aload_n d_X12_heldOf_5 rfl 0 rfl ?_
  refine G_callV (M' := mX12_nodes) (R' := (Rm d)) (S := [.int (nI i3)]) [] 12 (w12_kd hw12_r0) cok12 rfl ok_X12_nodes ml_X12_169 pn_X12_nodes (ru_Rm (by decide)) (Nat.le_of_ble_eq_true rfl) d_X12_heldOf_6 (s_X12_nodes (μ := μ)  hw12_r0 ?_)
  show G X (Rm (d + 1)) mX12_heldOf 9 [(0, .ref r0), (1, .int (nI i1)), (2, .int l2), (3, .int (nI i3))] [.int (e_X12_nodes μ r0), .int (nI i3)] μ 0 0 K
  refine G_icmp_ge (tgt := 29) d_X12_heldOf_9 rfl (fun c0 => ?_) (fun c0 => ?_)
  ·
    refine G_iload_n d_X12_heldOf_29 rfl 2 rfl ?_
    exact G_iret rfl rfl rfl d_X12_heldOf_30 (hK c0)
  ·
    refine G_iload_n d_X12_heldOf_12 rfl 2 rfl ?_
    refine G_aload_n d_X12_heldOf_13 rfl 0 rfl ?_
    refine G_iload_n d_X12_heldOf_14 rfl 1 rfl ?_
    refine G_iload_n d_X12_heldOf_15 rfl 3 rfl ?_
    refine G_callV (M' := mX12_atOf) (R' := (Rm d)) (S := [.int l2]) [.int (nI i1), .int (nI i3)] 12 (w12_kd hw12_r0) cok12 rfl ok_X12_atOf ml_X12_178 pn_X12_atOf (ru_Rm (by decide)) (Nat.le_of_ble_eq_true rfl) d_X12_heldOf_16 (s_X12_atOf (μ := μ) (i1 := i1) (i2 := i3) hw12_r0 (hs c0) ?_)
    show G X (Rm (d + 1)) mX12_heldOf 19 [(0, .ref r0), (1, .int (nI i1)), (2, .int l2), (3, .int (nI i3))] [.int (e_X12_atOf μ r0 i1 i3), .int l2] μ 0 0 K
    refine G_callS (M' := mX12_or) (R' := (Rm d)) (S := []) [.int l2, .int (e_X12_atOf μ r0 i1 i3)] ok_X12_or ml_X12_175 pn_X12_or (ru_Rm (by decide)) (Nat.le_of_ble_eq_true rfl) d_X12_heldOf_19 (s_X12_or (μ := μ)   ?_)
    show G X (Rm (d + 1)) mX12_heldOf 22 [(0, .ref r0), (1, .int (nI i1)), (2, .int l2), (3, .int (nI i3))] [.int (e_X12_or μ l2 (e_X12_atOf μ r0 i1 i3))] μ 0 0 K
    refine G_istore_n (L' := [(2, .int (e_X12_or μ l2 (e_X12_atOf μ r0 i1 i3))), (0, .ref r0), (1, .int (nI i1)), (3, .int (nI i3))]) d_X12_heldOf_22 rfl (by decide) rfl ?_
    refine G_iinc (L' := [(3, .int (nI (i3 + 1))), (2, .int (e_X12_or μ l2 (e_X12_atOf μ r0 i1 i3))), (0, .ref r0), (1, .int (nI i1))]) d_X12_heldOf_23 3 rfl (inc1 i3) (by decide) rfl ?_
    refine G_goto (tgt := 4) d_X12_heldOf_26 rfl ?_
    refine G_sub (L' := [(0, .ref r0), (1, .int (nI i1)), (2, .int (e_X12_or μ l2 (e_X12_atOf μ r0 i1 i3))), (3, .int (nI (i3 + 1)))]) [2, 3, 1, 0] rfl ?_
    exact (h c0)
theorem d_X12_manyOf_0 : decode cX12_manyOf 0 = .ok (.iconst 0, 1) := by decide +kernel
theorem d_X12_manyOf_1 : decode cX12_manyOf 1 = .ok (.istore 4, 2) := by decide +kernel
theorem d_X12_manyOf_3 : decode cX12_manyOf 3 = .ok (.iload_n 1, 1) := by decide +kernel
theorem d_X12_manyOf_4 : decode cX12_manyOf 4 = .ok (.istore 5, 2) := by decide +kernel
theorem d_X12_manyOf_6 : decode cX12_manyOf 6 = .ok (.iload 5, 2) := by decide +kernel
theorem d_X12_manyOf_8 : decode cX12_manyOf 8 = .ok (.iload_n 2, 1) := by decide +kernel
theorem d_X12_manyOf_9 : decode cX12_manyOf 9 = .ok (.if_icmp .ge 30, 3) := by decide +kernel
theorem d_X12_manyOf_12 : decode cX12_manyOf 12 = .ok (.iload 4, 2) := by decide +kernel
theorem d_X12_manyOf_14 : decode cX12_manyOf 14 = .ok (.aload_n 0, 1) := by decide +kernel
theorem d_X12_manyOf_15 : decode cX12_manyOf 15 = .ok (.getfield 7, 3) := by decide +kernel
theorem d_X12_manyOf_18 : decode cX12_manyOf 18 = .ok (.iload 5, 2) := by decide +kernel
theorem d_X12_manyOf_20 : decode cX12_manyOf 20 = .ok (.iaload, 1) := by decide +kernel
theorem d_X12_manyOf_21 : decode cX12_manyOf 21 = .ok (.iload_n 3, 1) := by decide +kernel
theorem d_X12_manyOf_22 : decode cX12_manyOf 22 = .ok (.if_icmp .ne 7, 3) := by decide +kernel
theorem d_X12_manyOf_25 : decode cX12_manyOf 25 = .ok (.iconst 1, 1) := by decide +kernel
theorem d_X12_manyOf_26 : decode cX12_manyOf 26 = .ok (.goto 4, 3) := by decide +kernel
theorem d_X12_manyOf_29 : decode cX12_manyOf 29 = .ok (.iconst 0, 1) := by decide +kernel
theorem d_X12_manyOf_30 : decode cX12_manyOf 30 = .ok (.iadd, 1) := by decide +kernel
theorem d_X12_manyOf_31 : decode cX12_manyOf 31 = .ok (.istore 4, 2) := by decide +kernel
theorem d_X12_manyOf_33 : decode cX12_manyOf 33 = .ok (.iinc 5 1, 3) := by decide +kernel
theorem d_X12_manyOf_36 : decode cX12_manyOf 36 = .ok (.goto (-30), 3) := by decide +kernel
theorem d_X12_manyOf_39 : decode cX12_manyOf 39 = .ok (.iload 4, 2) := by decide +kernel
theorem d_X12_manyOf_41 : decode cX12_manyOf 41 = .ok (.ireturn, 1) := by decide +kernel
theorem b_X12_manyOf_0 {X : cX} {d : Nat} {μ : mM} {K : Option Value → mM → Prop} {r0 : Nat} {l1 : Int32} {l2 : Int32} {l3 : Int32} (h : G X (Rm d) mX12_manyOf 6 [(0, .ref r0), (2, .int l2), (3, .int l3), (4, .int 0), (5, .int l1)] [] μ 0 0 K) : G X (Rm d) mX12_manyOf 0 [(0, .ref r0), (1, .int l1), (2, .int l2), (3, .int l3)] [] μ 0 0 K := by
  refine G_iconst d_X12_manyOf_0 ic_0 ?_
  refine G_istore (L' := [(4, .int 0), (0, .ref r0), (1, .int l1), (2, .int l2), (3, .int l3)]) d_X12_manyOf_1 (by decide) rfl ?_
  refine G_iload_n d_X12_manyOf_3 rfl 2 rfl ?_
  refine G_istore (L' := [(5, .int l1), (4, .int 0), (0, .ref r0), (1, .int l1), (2, .int l2), (3, .int l3)]) d_X12_manyOf_4 (by decide) rfl ?_
  refine G_sub (L' := [(0, .ref r0), (2, .int l2), (3, .int l3), (4, .int 0), (5, .int l1)]) [2, 4, 5, 1, 0] rfl ?_
  exact h
theorem b_X12_manyOf_6 {X : cX} {d : Nat} {μ : mM} {K : Option Value → mM → Prop} {r0 : Nat} {l2 : Int32} {l3 : Int32} {l4 : Int32} {i5 : Nat} (hK : l2 ≤ (nI i5) → K (some (.int l4)) μ) (hw12_r0 : WF12 μ r0) (hb : ¬ l2 ≤ (nI i5) → i5 < 366) (h : ¬ l2 ≤ (nI i5) → ¬ (iv μ (r0 + 1) i5) = l3 → G X (Rm d) mX12_manyOf 30 [(0, .ref r0), (2, .int l2), (3, .int l3), (5, .int (nI i5))] [.int 0, .int l4] μ 0 0 K) (h_2 : ¬ l2 ≤ (nI i5) → (iv μ (r0 + 1) i5) = l3 → G X (Rm d) mX12_manyOf 30 [(0, .ref r0), (2, .int l2), (3, .int l3), (5, .int (nI i5))] [.int 1, .int l4] μ 0 0 K) : G X (Rm d) mX12_manyOf 6 [(0, .ref r0), (2, .int l2), (3, .int l3), (4, .int l4), (5, .int (nI i5))] [] μ 0 0 K := by
  refine G_iload d_X12_manyOf_6 4 rfl ?_
  refine G_iload_n d_X12_manyOf_8 rfl 1 rfl ?_
  refine G_icmp_ge (tgt := 39) d_X12_manyOf_9 rfl (fun c0 => ?_) (fun c0 => ?_)
  ·
    refine G_iload d_X12_manyOf_39 3 rfl ?_
    exact G_iret rfl rfl rfl d_X12_manyOf_41 (hK c0)
  ·
    refine G_iload d_X12_manyOf_12 3 rfl ?_
    refine G_aload_n d_X12_manyOf_14 rfl 0 rfl ?_
    refine G_getR (r := r0 + 1) 12 0 (w12_kd hw12_r0) (w12_f0 hw12_r0) cok12 (by decide) rfl fl_X12_7 d_X12_manyOf_15 ?_
    refine G_iload d_X12_manyOf_18 4 rfl ?_
    refine G_iald i5 (w12_k0 hw12_r0) rfl (hb c0) d_X12_manyOf_20 ?_
    refine G_iload_n d_X12_manyOf_21 rfl 2 rfl ?_
    refine G_icmp_ne (tgt := 29) d_X12_manyOf_22 rfl (fun c1 => ?_) (fun c1 => ?_)
    ·
      refine G_iconst d_X12_manyOf_29 ic_0 ?_
      refine G_sub (L' := [(0, .ref r0), (2, .int l2), (3, .int l3), (5, .int (nI i5))]) [0, 1, 2, 4] rfl ?_
      exact (h c0 c1)
    ·
      refine G_iconst d_X12_manyOf_25 ic_1 ?_
      refine G_goto (tgt := 30) d_X12_manyOf_26 rfl ?_
      refine G_sub (L' := [(0, .ref r0), (2, .int l2), (3, .int l3), (5, .int (nI i5))]) [0, 1, 2, 4] rfl ?_
      exact (h_2 c0 c1)
theorem b_X12_manyOf_30 {X : cX} {d : Nat} {μ : mM} {K : Option Value → mM → Prop} {r0 : Nat} {l2 : Int32} {l3 : Int32} {i5 : Nat} {v0 : Int32} {v1 : Int32} (h : G X (Rm d) mX12_manyOf 6 [(0, .ref r0), (2, .int l2), (3, .int l3), (4, .int (v0 + v1)), (5, .int (nI (i5 + 1)))] [] μ 0 0 K) : G X (Rm d) mX12_manyOf 30 [(0, .ref r0), (2, .int l2), (3, .int l3), (5, .int (nI i5))] [.int v1, .int v0] μ 0 0 K := by
  refine G_iadd d_X12_manyOf_30 ?_
  refine G_istore (L' := [(4, .int (v0 + v1)), (0, .ref r0), (2, .int l2), (3, .int l3), (5, .int (nI i5))]) d_X12_manyOf_31 (by decide) rfl ?_
  refine G_iinc (L' := [(5, .int (nI (i5 + 1))), (4, .int (v0 + v1)), (0, .ref r0), (2, .int l2), (3, .int l3)]) d_X12_manyOf_33 4 rfl (inc1 i5) (by decide) rfl ?_
  refine G_goto (tgt := 6) d_X12_manyOf_36 rfl ?_
  refine G_sub (L' := [(0, .ref r0), (2, .int l2), (3, .int l3), (4, .int (v0 + v1)), (5, .int (nI (i5 + 1)))]) [2, 3, 4, 1, 0] rfl ?_
  exact h
theorem d_X12_isHeap_0 : decode cX12_isHeap 0 = .ok (.aload_n 0, 1) := by decide +kernel
theorem d_X12_isHeap_1 : decode cX12_isHeap 1 = .ok (.iconst 0, 1) := by decide +kernel
theorem d_X12_isHeap_2 : decode cX12_isHeap 2 = .ok (.bipush 6, 2) := by decide +kernel
theorem d_X12_isHeap_4 : decode cX12_isHeap 4 = .ok (.iconst 1, 1) := by decide +kernel
theorem d_X12_isHeap_5 : decode cX12_isHeap 5 = .ok (.invokevirtual 184, 3) := by decide +kernel
theorem d_X12_isHeap_8 : decode cX12_isHeap 8 = .ok (.ifCond .ne 19, 3) := by decide +kernel
theorem d_X12_isHeap_11 : decode cX12_isHeap 11 = .ok (.aload_n 0, 1) := by decide +kernel
theorem d_X12_isHeap_12 : decode cX12_isHeap 12 = .ok (.bipush 6, 2) := by decide +kernel
theorem d_X12_isHeap_14 : decode cX12_isHeap 14 = .ok (.bipush 60, 2) := by decide +kernel
theorem d_X12_isHeap_16 : decode cX12_isHeap 16 = .ok (.iconst 1, 1) := by decide +kernel
theorem d_X12_isHeap_17 : decode cX12_isHeap 17 = .ok (.invokevirtual 184, 3) := by decide +kernel
theorem d_X12_isHeap_20 : decode cX12_isHeap 20 = .ok (.ifCond .ne 7, 3) := by decide +kernel
theorem d_X12_isHeap_23 : decode cX12_isHeap 23 = .ok (.iconst 1, 1) := by decide +kernel
theorem d_X12_isHeap_24 : decode cX12_isHeap 24 = .ok (.goto 4, 3) := by decide +kernel
theorem d_X12_isHeap_27 : decode cX12_isHeap 27 = .ok (.iconst 0, 1) := by decide +kernel
theorem d_X12_isHeap_28 : decode cX12_isHeap 28 = .ok (.istore_n 1, 1) := by decide +kernel
theorem d_X12_isHeap_29 : decode cX12_isHeap 29 = .ok (.bipush 6, 2) := by decide +kernel
theorem d_X12_isHeap_31 : decode cX12_isHeap 31 = .ok (.istore_n 2, 1) := by decide +kernel
theorem d_X12_isHeap_32 : decode cX12_isHeap 32 = .ok (.iload_n 2, 1) := by decide +kernel
theorem d_X12_isHeap_33 : decode cX12_isHeap 33 = .ok (.bipush 60, 2) := by decide +kernel
theorem d_X12_isHeap_35 : decode cX12_isHeap 35 = .ok (.if_icmp .ge 33, 3) := by decide +kernel
theorem d_X12_isHeap_38 : decode cX12_isHeap 38 = .ok (.iload_n 1, 1) := by decide +kernel
theorem d_X12_isHeap_39 : decode cX12_isHeap 39 = .ok (.ifCond .eq 21, 3) := by decide +kernel
theorem d_X12_isHeap_42 : decode cX12_isHeap 42 = .ok (.aload_n 0, 1) := by decide +kernel
theorem d_X12_isHeap_43 : decode cX12_isHeap 43 = .ok (.iload_n 2, 1) := by decide +kernel
theorem d_X12_isHeap_44 : decode cX12_isHeap 44 = .ok (.iload_n 2, 1) := by decide +kernel
theorem d_X12_isHeap_45 : decode cX12_isHeap 45 = .ok (.bipush 6, 2) := by decide +kernel
theorem d_X12_isHeap_47 : decode cX12_isHeap 47 = .ok (.iadd, 1) := by decide +kernel
theorem d_X12_isHeap_48 : decode cX12_isHeap 48 = .ok (.iconst 2, 1) := by decide +kernel
theorem d_X12_isHeap_49 : decode cX12_isHeap 49 = .ok (.invokevirtual 184, 3) := by decide +kernel
theorem d_X12_isHeap_52 : decode cX12_isHeap 52 = .ok (.iconst 2, 1) := by decide +kernel
theorem d_X12_isHeap_53 : decode cX12_isHeap 53 = .ok (.if_icmp .ge 7, 3) := by decide +kernel
theorem d_X12_isHeap_56 : decode cX12_isHeap 56 = .ok (.iconst 1, 1) := by decide +kernel
theorem d_X12_isHeap_57 : decode cX12_isHeap 57 = .ok (.goto 4, 3) := by decide +kernel
theorem d_X12_isHeap_60 : decode cX12_isHeap 60 = .ok (.iconst 0, 1) := by decide +kernel
theorem d_X12_isHeap_61 : decode cX12_isHeap 61 = .ok (.istore_n 1, 1) := by decide +kernel
theorem d_X12_isHeap_62 : decode cX12_isHeap 62 = .ok (.iinc 2 6, 3) := by decide +kernel
theorem d_X12_isHeap_65 : decode cX12_isHeap 65 = .ok (.goto (-33), 3) := by decide +kernel
theorem d_X12_isHeap_68 : decode cX12_isHeap 68 = .ok (.iload_n 1, 1) := by decide +kernel
theorem d_X12_isHeap_69 : decode cX12_isHeap 69 = .ok (.ireturn, 1) := by decide +kernel
theorem b_X12_isHeap_0 {X : cX} {d : Nat} {μ : mM} {K : Option Value → mM → Prop} {r0 : Nat} (hw12_r0 : WF12 μ r0) (hc_manyOf : Ct X (Rm d) mX12_manyOf [.ref r0, .int 0, .int 6, .int 1] μ (fun r μ2 => G X (Rm (d + 1)) mX12_isHeap 8 [(0, .ref r0)] (r.toList ++ []) μ2 0 0 K)) : G X (Rm (d + 1)) mX12_isHeap 0 [(0, .ref r0)] [] μ 0 0 K := by
  refine G_aload_n d_X12_isHeap_0 rfl 0 rfl ?_
  refine G_iconst d_X12_isHeap_1 ic_0 ?_
  refine G_bipush d_X12_isHeap_2 bp_6 ?_
  refine G_iconst d_X12_isHeap_4 ic_1 ?_
  refine G_callV (M' := mX12_manyOf) (R' := (Rm d)) (S := []) [.int 0, .int 6, .int 1] 12 (w12_kd hw12_r0) cok12 rfl ok_X12_manyOf ml_X12_184 pn_X12_manyOf (ru_Rm (by decide)) (Nat.le_of_ble_eq_true rfl) d_X12_isHeap_5 ?_
  exact hc_manyOf
theorem b_X12_isHeap_8 {X : cX} {d : Nat} {μ : mM} {K : Option Value → mM → Prop} {r0 : Nat} {v0 : Int32} (h : ¬ v0 = 0 → G X (Rm (d + 1)) mX12_isHeap 27 [(0, .ref r0)] [] μ 0 0 K) (hw12_r0 : WF12 μ r0) (hc_manyOf : v0 = 0 → Ct X (Rm d) mX12_manyOf [.ref r0, .int 6, .int 60, .int 1] μ (fun r μ2 => G X (Rm (d + 1)) mX12_isHeap 20 [(0, .ref r0)] (r.toList ++ []) μ2 0 0 K)) : G X (Rm (d + 1)) mX12_isHeap 8 [(0, .ref r0)] [.int v0] μ 0 0 K := by
  refine G_if_ne (tgt := 27) d_X12_isHeap_8 rfl (fun c0 => ?_) (fun c0 => ?_)
  ·
    exact (h c0)
  ·
    refine G_aload_n d_X12_isHeap_11 rfl 0 rfl ?_
    refine G_bipush d_X12_isHeap_12 bp_6 ?_
    refine G_bipush d_X12_isHeap_14 bp_60 ?_
    refine G_iconst d_X12_isHeap_16 ic_1 ?_
    refine G_callV (M' := mX12_manyOf) (R' := (Rm d)) (S := []) [.int 6, .int 60, .int 1] 12 (w12_kd hw12_r0) cok12 rfl ok_X12_manyOf ml_X12_184 pn_X12_manyOf (ru_Rm (by decide)) (Nat.le_of_ble_eq_true rfl) d_X12_isHeap_17 ?_
    exact (hc_manyOf c0)
theorem b_X12_isHeap_20 {X : cX} {d : Nat} {μ : mM} {K : Option Value → mM → Prop} {r0 : Nat} {v0 : Int32} (h : ¬ v0 = 0 → G X (Rm (d + 1)) mX12_isHeap 27 [(0, .ref r0)] [] μ 0 0 K) (h_2 : v0 = 0 → G X (Rm (d + 1)) mX12_isHeap 28 [(0, .ref r0)] [.int 1] μ 0 0 K) : G X (Rm (d + 1)) mX12_isHeap 20 [(0, .ref r0)] [.int v0] μ 0 0 K := by
  refine G_if_ne (tgt := 27) d_X12_isHeap_20 rfl (fun c0 => ?_) (fun c0 => ?_)
  ·
    exact (h c0)
  ·
    refine G_iconst d_X12_isHeap_23 ic_1 ?_
    refine G_goto (tgt := 28) d_X12_isHeap_24 rfl ?_
    exact (h_2 c0)
theorem b_X12_isHeap_27 {X : cX} {d : Nat} {μ : mM} {K : Option Value → mM → Prop} {r0 : Nat} (h : G X (Rm (d + 1)) mX12_isHeap 28 [(0, .ref r0)] [.int 0] μ 0 0 K) : G X (Rm (d + 1)) mX12_isHeap 27 [(0, .ref r0)] [] μ 0 0 K := by
  refine G_iconst d_X12_isHeap_27 ic_0 ?_
  exact h
theorem b_X12_isHeap_28 {X : cX} {d : Nat} {μ : mM} {K : Option Value → mM → Prop} {r0 : Nat} {v0 : Int32} (h : G X (Rm (d + 1)) mX12_isHeap 32 [(0, .ref r0), (1, .int v0), (2, .int (nI 6))] [] μ 0 0 K) : G X (Rm (d + 1)) mX12_isHeap 28 [(0, .ref r0)] [.int v0] μ 0 0 K := by
  refine G_istore_n (L' := [(1, .int v0), (0, .ref r0)]) d_X12_isHeap_28 rfl (by decide) rfl ?_
  refine G_bipush d_X12_isHeap_29 bp_6 ?_
  refine G_istore_n (L' := [(2, .int (nI 6)), (1, .int v0), (0, .ref r0)]) d_X12_isHeap_31 rfl (by decide) rfl ?_
  refine G_sub (L' := [(0, .ref r0), (1, .int v0), (2, .int (nI 6))]) [2, 1, 0] rfl ?_
  exact h
theorem b_X12_isHeap_32 {X : cX} {d : Nat} {μ : mM} {K : Option Value → mM → Prop} {r0 : Nat} {l1 : Int32} {l2 : Int32} (hK : (60 : Int32) ≤ l2 → K (some (.int l1)) μ) (hz : (60 : Int32) ≤ l2 → l1 = 0 ∨ l1 = 1) (h : ¬ (60 : Int32) ≤ l2 → l1 = 0 → G X (Rm (d + 1)) mX12_isHeap 60 [(0, .ref r0), (2, .int l2)] [] μ 0 0 K) (hw12_r0 : WF12 μ r0) (hc_manyOf : ¬ (60 : Int32) ≤ l2 → ¬ l1 = 0 → Ct X (Rm d) mX12_manyOf [.ref r0, .int l2, .int (l2 + 6), .int 2] μ (fun r μ2 => G X (Rm (d + 1)) mX12_isHeap 52 [(0, .ref r0), (2, .int l2)] (r.toList ++ []) μ2 0 0 K)) : G X (Rm (d + 1)) mX12_isHeap 32 [(0, .ref r0), (1, .int l1), (2, .int l2)] [] μ 0 0 K := by
  refine G_iload_n d_X12_isHeap_32 rfl 2 rfl ?_
  refine G_bipush d_X12_isHeap_33 bp_60 ?_
  refine G_icmp_ge (tgt := 68) d_X12_isHeap_35 rfl (fun c0 => ?_) (fun c0 => ?_)
  ·
    refine G_iload_n d_X12_isHeap_68 rfl 1 rfl ?_
    exact G_zret rfl (nar_b (hz c0)) rfl rfl d_X12_isHeap_69 (hK c0)
  ·
    refine G_iload_n d_X12_isHeap_38 rfl 1 rfl ?_
    refine G_if_eq (tgt := 60) d_X12_isHeap_39 rfl (fun c1 => ?_) (fun c1 => ?_)
    ·
      refine G_sub (L' := [(0, .ref r0), (2, .int l2)]) [0, 2] rfl ?_
      exact (h c0 c1)
    ·
      refine G_aload_n d_X12_isHeap_42 rfl 0 rfl ?_
      refine G_iload_n d_X12_isHeap_43 rfl 2 rfl ?_
      refine G_iload_n d_X12_isHeap_44 rfl 2 rfl ?_
      refine G_bipush d_X12_isHeap_45 bp_6 ?_
      refine G_iadd d_X12_isHeap_47 ?_
      refine G_iconst d_X12_isHeap_48 ic_2 ?_
      refine G_sub (L' := [(0, .ref r0), (2, .int l2)]) [0, 2] rfl ?_
      refine G_callV (M' := mX12_manyOf) (R' := (Rm d)) (S := []) [.int l2, .int (l2 + 6), .int 2] 12 (w12_kd hw12_r0) cok12 rfl ok_X12_manyOf ml_X12_184 pn_X12_manyOf (ru_Rm (by decide)) (Nat.le_of_ble_eq_true rfl) d_X12_isHeap_49 ?_
      exact (hc_manyOf c0 c1)
theorem b_X12_isHeap_52 {X : cX} {d : Nat} {μ : mM} {K : Option Value → mM → Prop} {r0 : Nat} {l2 : Int32} {v0 : Int32} (h : (2 : Int32) ≤ v0 → G X (Rm (d + 1)) mX12_isHeap 60 [(0, .ref r0), (2, .int l2)] [] μ 0 0 K) (h_2 : ¬ (2 : Int32) ≤ v0 → G X (Rm (d + 1)) mX12_isHeap 61 [(0, .ref r0), (2, .int l2)] [.int 1] μ 0 0 K) : G X (Rm (d + 1)) mX12_isHeap 52 [(0, .ref r0), (2, .int l2)] [.int v0] μ 0 0 K := by
  refine G_iconst d_X12_isHeap_52 ic_2 ?_
  refine G_icmp_ge (tgt := 60) d_X12_isHeap_53 rfl (fun c0 => ?_) (fun c0 => ?_)
  ·
    exact (h c0)
  ·
    refine G_iconst d_X12_isHeap_56 ic_1 ?_
    refine G_goto (tgt := 61) d_X12_isHeap_57 rfl ?_
    exact (h_2 c0)
theorem b_X12_isHeap_60 {X : cX} {d : Nat} {μ : mM} {K : Option Value → mM → Prop} {r0 : Nat} {l2 : Int32} (h : G X (Rm (d + 1)) mX12_isHeap 61 [(0, .ref r0), (2, .int l2)] [.int 0] μ 0 0 K) : G X (Rm (d + 1)) mX12_isHeap 60 [(0, .ref r0), (2, .int l2)] [] μ 0 0 K := by
  refine G_iconst d_X12_isHeap_60 ic_0 ?_
  exact h
theorem b_X12_isHeap_61 {X : cX} {d : Nat} {μ : mM} {K : Option Value → mM → Prop} {r0 : Nat} {i2 : Nat} {v0 : Int32} (h : G X (Rm (d + 1)) mX12_isHeap 32 [(0, .ref r0), (1, .int v0), (2, .int (nI i2 + 6))] [] μ 0 0 K) : G X (Rm (d + 1)) mX12_isHeap 61 [(0, .ref r0), (2, .int (nI i2))] [.int v0] μ 0 0 K := by
  refine G_istore_n (L' := [(1, .int v0), (0, .ref r0), (2, .int (nI i2))]) d_X12_isHeap_61 rfl (by decide) rfl ?_
  refine G_iinc (L' := [(2, .int (nI i2 + 6)), (1, .int v0), (0, .ref r0)]) d_X12_isHeap_62 2 rfl rfl (by decide) rfl ?_
  refine G_goto (tgt := 32) d_X12_isHeap_65 rfl ?_
  refine G_sub (L' := [(0, .ref r0), (1, .int v0), (2, .int (nI i2 + 6))]) [2, 1, 0] rfl ?_
  exact h
theorem d_X12_rule_0 : decode cX12_rule 0 = .ok (.iload_n 1, 1) := by decide +kernel
theorem d_X12_rule_1 : decode cX12_rule 1 = .ok (.tableswitch 119 0 7 #[47, 52, 57, 66, 76, 86, 96, 106], 47) := by decide +kernel
theorem d_X12_rule_48 : decode cX12_rule 48 = .ok (.aload_n 0, 1) := by decide +kernel
theorem d_X12_rule_49 : decode cX12_rule 49 = .ok (.invokevirtual 169, 3) := by decide +kernel
theorem d_X12_rule_52 : decode cX12_rule 52 = .ok (.ireturn, 1) := by decide +kernel
theorem d_X12_rule_53 : decode cX12_rule 53 = .ok (.aload_n 0, 1) := by decide +kernel
theorem d_X12_rule_54 : decode cX12_rule 54 = .ok (.getfield 166, 3) := by decide +kernel
theorem d_X12_rule_57 : decode cX12_rule 57 = .ok (.ireturn, 1) := by decide +kernel
theorem d_X12_rule_58 : decode cX12_rule 58 = .ok (.aload_n 0, 1) := by decide +kernel
theorem d_X12_rule_59 : decode cX12_rule 59 = .ok (.iconst 0, 1) := by decide +kernel
theorem d_X12_rule_60 : decode cX12_rule 60 = .ok (.bipush 6, 2) := by decide +kernel
theorem d_X12_rule_62 : decode cX12_rule 62 = .ok (.iconst 1, 1) := by decide +kernel
theorem d_X12_rule_63 : decode cX12_rule 63 = .ok (.invokevirtual 184, 3) := by decide +kernel
theorem d_X12_rule_66 : decode cX12_rule 66 = .ok (.ireturn, 1) := by decide +kernel
theorem d_X12_rule_67 : decode cX12_rule 67 = .ok (.aload_n 0, 1) := by decide +kernel
theorem d_X12_rule_68 : decode cX12_rule 68 = .ok (.bipush 6, 2) := by decide +kernel
theorem d_X12_rule_70 : decode cX12_rule 70 = .ok (.bipush 24, 2) := by decide +kernel
theorem d_X12_rule_72 : decode cX12_rule 72 = .ok (.iconst 1, 1) := by decide +kernel
theorem d_X12_rule_73 : decode cX12_rule 73 = .ok (.invokevirtual 184, 3) := by decide +kernel
theorem d_X12_rule_76 : decode cX12_rule 76 = .ok (.ireturn, 1) := by decide +kernel
theorem d_X12_rule_77 : decode cX12_rule 77 = .ok (.aload_n 0, 1) := by decide +kernel
theorem d_X12_rule_78 : decode cX12_rule 78 = .ok (.bipush 24, 2) := by decide +kernel
theorem d_X12_rule_80 : decode cX12_rule 80 = .ok (.bipush 60, 2) := by decide +kernel
theorem d_X12_rule_82 : decode cX12_rule 82 = .ok (.iconst 1, 1) := by decide +kernel
theorem d_X12_rule_83 : decode cX12_rule 83 = .ok (.invokevirtual 184, 3) := by decide +kernel
theorem d_X12_rule_86 : decode cX12_rule 86 = .ok (.ireturn, 1) := by decide +kernel
theorem d_X12_rule_87 : decode cX12_rule 87 = .ok (.aload_n 0, 1) := by decide +kernel
theorem d_X12_rule_88 : decode cX12_rule 88 = .ok (.bipush 6, 2) := by decide +kernel
theorem d_X12_rule_90 : decode cX12_rule 90 = .ok (.bipush 24, 2) := by decide +kernel
theorem d_X12_rule_92 : decode cX12_rule 92 = .ok (.iconst 2, 1) := by decide +kernel
theorem d_X12_rule_93 : decode cX12_rule 93 = .ok (.invokevirtual 184, 3) := by decide +kernel
theorem d_X12_rule_96 : decode cX12_rule 96 = .ok (.ireturn, 1) := by decide +kernel
theorem d_X12_rule_97 : decode cX12_rule 97 = .ok (.aload_n 0, 1) := by decide +kernel
theorem d_X12_rule_98 : decode cX12_rule 98 = .ok (.bipush 24, 2) := by decide +kernel
theorem d_X12_rule_100 : decode cX12_rule 100 = .ok (.bipush 60, 2) := by decide +kernel
theorem d_X12_rule_102 : decode cX12_rule 102 = .ok (.iconst 2, 1) := by decide +kernel
theorem d_X12_rule_103 : decode cX12_rule 103 = .ok (.invokevirtual 184, 3) := by decide +kernel
theorem d_X12_rule_106 : decode cX12_rule 106 = .ok (.ireturn, 1) := by decide +kernel
theorem d_X12_rule_107 : decode cX12_rule 107 = .ok (.aload_n 0, 1) := by decide +kernel
theorem d_X12_rule_108 : decode cX12_rule 108 = .ok (.invokevirtual 188, 3) := by decide +kernel
theorem d_X12_rule_111 : decode cX12_rule 111 = .ok (.ifCond .eq 7, 3) := by decide +kernel
theorem d_X12_rule_114 : decode cX12_rule 114 = .ok (.iconst 1, 1) := by decide +kernel
theorem d_X12_rule_115 : decode cX12_rule 115 = .ok (.goto 4, 3) := by decide +kernel
theorem d_X12_rule_118 : decode cX12_rule 118 = .ok (.iconst 0, 1) := by decide +kernel
theorem d_X12_rule_119 : decode cX12_rule 119 = .ok (.ireturn, 1) := by decide +kernel
theorem d_X12_rule_120 : decode cX12_rule 120 = .ok (.iconst (-1), 1) := by decide +kernel
theorem d_X12_rule_121 : decode cX12_rule 121 = .ok (.ireturn, 1) := by decide +kernel
theorem b_X12_rule_0 {X : cX} {d : Nat} {μ : mM} {K : Option Value → mM → Prop} {r0 : Nat} {l1 : Int32} (hw12_r0 : WF12 μ r0) (hK : l1 = 0 → K (some (.int (e_X12_nodes μ r0))) μ) (hK_2 : l1 = 1 → K (some (.int (iv μ r0 2))) μ) (hc_manyOf : l1 = 2 → Ct X (Rm (d + 1)) mX12_manyOf [.ref r0, .int 0, .int 6, .int 1] μ (fun r μ2 => G X (Rm (d + 2)) mX12_rule 66 [] (r.toList ++ []) μ2 0 0 K)) (hc_manyOf_2 : l1 = 3 → Ct X (Rm (d + 1)) mX12_manyOf [.ref r0, .int 6, .int 24, .int 1] μ (fun r μ2 => G X (Rm (d + 2)) mX12_rule 76 [] (r.toList ++ []) μ2 0 0 K)) (hc_manyOf_3 : l1 = 4 → Ct X (Rm (d + 1)) mX12_manyOf [.ref r0, .int 24, .int 60, .int 1] μ (fun r μ2 => G X (Rm (d + 2)) mX12_rule 86 [] (r.toList ++ []) μ2 0 0 K)) (hc_manyOf_4 : l1 = 5 → Ct X (Rm (d + 1)) mX12_manyOf [.ref r0, .int 6, .int 24, .int 2] μ (fun r μ2 => G X (Rm (d + 2)) mX12_rule 96 [] (r.toList ++ []) μ2 0 0 K)) (hc_manyOf_5 : l1 = 6 → Ct X (Rm (d + 1)) mX12_manyOf [.ref r0, .int 24, .int 60, .int 2] μ (fun r μ2 => G X (Rm (d + 2)) mX12_rule 106 [] (r.toList ++ []) μ2 0 0 K)) (hc_isHeap : l1 = 7 → Ct X (Rm (d + 1)) mX12_isHeap [.ref r0] μ (fun r μ2 => G X (Rm (d + 2)) mX12_rule 111 [] (r.toList ++ []) μ2 0 0 K)) (hK_3 : (l1.toInt < 0 ∨ 7 < l1.toInt) → K (some (.int (-1))) μ) : G X (Rm (d + 2)) mX12_rule 0 [(0, .ref r0), (1, .int l1)] [] μ 0 0 K := by
  refine G_iload_n d_X12_rule_0 rfl 1 rfl ?_
  by_cases c0 : l1 = 0
  ·
    refine G_tableIn (tgt := 48) (off := 47) d_X12_rule_1 (by rw [c0]; decide) (by rw [c0]; decide) (by rw [c0]; decide) rfl ?_
    refine G_aload_n d_X12_rule_48 rfl 0 rfl ?_
    refine G_callV (M' := mX12_nodes) (R' := (Rm (d + 1))) (S := []) [] 12 (w12_kd hw12_r0) cok12 rfl ok_X12_nodes ml_X12_169 pn_X12_nodes (ru_Rm (by decide)) (Nat.le_of_ble_eq_true rfl) d_X12_rule_49 (s_X12_nodes (μ := μ)  hw12_r0 ?_)
    show G X (Rm (d + 2)) mX12_rule 52 [(0, .ref r0), (1, .int l1)] [.int (e_X12_nodes μ r0)] μ 0 0 K
    exact G_iret rfl rfl rfl d_X12_rule_52 (hK c0)
  have z0 := lv_neT c0 (show (0 : Int32).toInt = 0 from rfl)
  by_cases c0 : l1 = 1
  ·
    refine G_tableIn (tgt := 53) (off := 52) d_X12_rule_1 (by rw [c0]; decide) (by rw [c0]; decide) (by rw [c0]; decide) rfl ?_
    refine G_aload_n d_X12_rule_53 rfl 0 rfl ?_
    refine G_getI 12 2 (w12_kd hw12_r0) cok12 (by decide) rfl fl_X12_166 d_X12_rule_54 ?_
    exact G_iret rfl rfl rfl d_X12_rule_57 (hK_2 c0)
  have z1 := lv_neT c0 (show (1 : Int32).toInt = 1 from rfl)
  by_cases c0 : l1 = 2
  ·
    refine G_tableIn (tgt := 58) (off := 57) d_X12_rule_1 (by rw [c0]; decide) (by rw [c0]; decide) (by rw [c0]; decide) rfl ?_
    refine G_aload_n d_X12_rule_58 rfl 0 rfl ?_
    refine G_iconst d_X12_rule_59 ic_0 ?_
    refine G_bipush d_X12_rule_60 bp_6 ?_
    refine G_iconst d_X12_rule_62 ic_1 ?_
    refine G_sub (L' := []) [] rfl ?_
    refine G_callV (M' := mX12_manyOf) (R' := (Rm (d + 1))) (S := []) [.int 0, .int 6, .int 1] 12 (w12_kd hw12_r0) cok12 rfl ok_X12_manyOf ml_X12_184 pn_X12_manyOf (ru_Rm (by decide)) (Nat.le_of_ble_eq_true rfl) d_X12_rule_63 ?_
    exact (hc_manyOf c0)
  have z2 := lv_neT c0 (show (2 : Int32).toInt = 2 from rfl)
  by_cases c0 : l1 = 3
  ·
    refine G_tableIn (tgt := 67) (off := 66) d_X12_rule_1 (by rw [c0]; decide) (by rw [c0]; decide) (by rw [c0]; decide) rfl ?_
    refine G_aload_n d_X12_rule_67 rfl 0 rfl ?_
    refine G_bipush d_X12_rule_68 bp_6 ?_
    refine G_bipush d_X12_rule_70 bp_24 ?_
    refine G_iconst d_X12_rule_72 ic_1 ?_
    refine G_sub (L' := []) [] rfl ?_
    refine G_callV (M' := mX12_manyOf) (R' := (Rm (d + 1))) (S := []) [.int 6, .int 24, .int 1] 12 (w12_kd hw12_r0) cok12 rfl ok_X12_manyOf ml_X12_184 pn_X12_manyOf (ru_Rm (by decide)) (Nat.le_of_ble_eq_true rfl) d_X12_rule_73 ?_
    exact (hc_manyOf_2 c0)
  have z3 := lv_neT c0 (show (3 : Int32).toInt = 3 from rfl)
  by_cases c0 : l1 = 4
  ·
    refine G_tableIn (tgt := 77) (off := 76) d_X12_rule_1 (by rw [c0]; decide) (by rw [c0]; decide) (by rw [c0]; decide) rfl ?_
    refine G_aload_n d_X12_rule_77 rfl 0 rfl ?_
    refine G_bipush d_X12_rule_78 bp_24 ?_
    refine G_bipush d_X12_rule_80 bp_60 ?_
    refine G_iconst d_X12_rule_82 ic_1 ?_
    refine G_sub (L' := []) [] rfl ?_
    refine G_callV (M' := mX12_manyOf) (R' := (Rm (d + 1))) (S := []) [.int 24, .int 60, .int 1] 12 (w12_kd hw12_r0) cok12 rfl ok_X12_manyOf ml_X12_184 pn_X12_manyOf (ru_Rm (by decide)) (Nat.le_of_ble_eq_true rfl) d_X12_rule_83 ?_
    exact (hc_manyOf_3 c0)
  have z4 := lv_neT c0 (show (4 : Int32).toInt = 4 from rfl)
  by_cases c0 : l1 = 5
  ·
    refine G_tableIn (tgt := 87) (off := 86) d_X12_rule_1 (by rw [c0]; decide) (by rw [c0]; decide) (by rw [c0]; decide) rfl ?_
    refine G_aload_n d_X12_rule_87 rfl 0 rfl ?_
    refine G_bipush d_X12_rule_88 bp_6 ?_
    refine G_bipush d_X12_rule_90 bp_24 ?_
    refine G_iconst d_X12_rule_92 ic_2 ?_
    refine G_sub (L' := []) [] rfl ?_
    refine G_callV (M' := mX12_manyOf) (R' := (Rm (d + 1))) (S := []) [.int 6, .int 24, .int 2] 12 (w12_kd hw12_r0) cok12 rfl ok_X12_manyOf ml_X12_184 pn_X12_manyOf (ru_Rm (by decide)) (Nat.le_of_ble_eq_true rfl) d_X12_rule_93 ?_
    exact (hc_manyOf_4 c0)
  have z5 := lv_neT c0 (show (5 : Int32).toInt = 5 from rfl)
  by_cases c0 : l1 = 6
  ·
    refine G_tableIn (tgt := 97) (off := 96) d_X12_rule_1 (by rw [c0]; decide) (by rw [c0]; decide) (by rw [c0]; decide) rfl ?_
    refine G_aload_n d_X12_rule_97 rfl 0 rfl ?_
    refine G_bipush d_X12_rule_98 bp_24 ?_
    refine G_bipush d_X12_rule_100 bp_60 ?_
    refine G_iconst d_X12_rule_102 ic_2 ?_
    refine G_sub (L' := []) [] rfl ?_
    refine G_callV (M' := mX12_manyOf) (R' := (Rm (d + 1))) (S := []) [.int 24, .int 60, .int 2] 12 (w12_kd hw12_r0) cok12 rfl ok_X12_manyOf ml_X12_184 pn_X12_manyOf (ru_Rm (by decide)) (Nat.le_of_ble_eq_true rfl) d_X12_rule_103 ?_
    exact (hc_manyOf_5 c0)
  have z6 := lv_neT c0 (show (6 : Int32).toInt = 6 from rfl)
  by_cases c0 : l1 = 7
  ·
    refine G_tableIn (tgt := 107) (off := 106) d_X12_rule_1 (by rw [c0]; decide) (by rw [c0]; decide) (by rw [c0]; decide) rfl ?_
    refine G_aload_n d_X12_rule_107 rfl 0 rfl ?_
    refine G_sub (L' := []) [] rfl ?_
    refine G_callV (M' := mX12_isHeap) (R' := (Rm (d + 1))) (S := []) [] 12 (w12_kd hw12_r0) cok12 rfl ok_X12_isHeap ml_X12_188 pn_X12_isHeap (ru_Rm (by decide)) (Nat.le_of_ble_eq_true rfl) d_X12_rule_108 ?_
    exact (hc_isHeap c0)
  have z7 := lv_neT c0 (show (7 : Int32).toInt = 7 from rfl)
  have c0 : l1.toInt < 0 ∨ 7 < l1.toInt := by omega
  refine G_tableOut (tgt := 120) d_X12_rule_1 c0 rfl ?_
  refine G_iconst d_X12_rule_120 ic_m1 ?_
  exact G_iret rfl rfl rfl d_X12_rule_121 (hK_3 c0)
theorem b_X12_rule_66 {X : cX} {d : Nat} {μ : mM} {K : Option Value → mM → Prop} {v0 : Int32} (hK : K (some (.int v0)) μ) : G X (Rm (d + 2)) mX12_rule 66 [] [.int v0] μ 0 0 K := by
  exact G_iret rfl rfl rfl d_X12_rule_66 hK
theorem b_X12_rule_76 {X : cX} {d : Nat} {μ : mM} {K : Option Value → mM → Prop} {v0 : Int32} (hK : K (some (.int v0)) μ) : G X (Rm (d + 2)) mX12_rule 76 [] [.int v0] μ 0 0 K := by
  exact G_iret rfl rfl rfl d_X12_rule_76 hK
theorem b_X12_rule_86 {X : cX} {d : Nat} {μ : mM} {K : Option Value → mM → Prop} {v0 : Int32} (hK : K (some (.int v0)) μ) : G X (Rm (d + 2)) mX12_rule 86 [] [.int v0] μ 0 0 K := by
  exact G_iret rfl rfl rfl d_X12_rule_86 hK
theorem b_X12_rule_96 {X : cX} {d : Nat} {μ : mM} {K : Option Value → mM → Prop} {v0 : Int32} (hK : K (some (.int v0)) μ) : G X (Rm (d + 2)) mX12_rule 96 [] [.int v0] μ 0 0 K := by
  exact G_iret rfl rfl rfl d_X12_rule_96 hK
theorem b_X12_rule_106 {X : cX} {d : Nat} {μ : mM} {K : Option Value → mM → Prop} {v0 : Int32} (hK : K (some (.int v0)) μ) : G X (Rm (d + 2)) mX12_rule 106 [] [.int v0] μ 0 0 K := by
  exact G_iret rfl rfl rfl d_X12_rule_106 hK
theorem b_X12_rule_111 {X : cX} {d : Nat} {μ : mM} {K : Option Value → mM → Prop} {v0 : Int32} (hK : v0 = 0 → K (some (.int 0)) μ) (hK_2 : ¬ v0 = 0 → K (some (.int 1)) μ) : G X (Rm (d + 2)) mX12_rule 111 [] [.int v0] μ 0 0 K := by
  refine G_if_eq (tgt := 118) d_X12_rule_111 rfl (fun c0 => ?_) (fun c0 => ?_)
  ·
    refine G_iconst d_X12_rule_118 ic_0 ?_
    exact G_iret rfl rfl rfl d_X12_rule_119 (hK c0)
  ·
    refine G_iconst d_X12_rule_114 ic_1 ?_
    refine G_goto (tgt := 119) d_X12_rule_115 rfl ?_
    exact G_iret rfl rfl rfl d_X12_rule_119 (hK_2 c0)
theorem d_X12_isNode_0 : decode cX12_isNode 0 = .ok (.iload_n 1, 1) := by decide +kernel
theorem d_X12_isNode_1 : decode cX12_isNode 1 = .ok (.i2l, 1) := by decide +kernel
theorem d_X12_isNode_2 : decode cX12_isNode 2 = .ok (.lconst 0, 1) := by decide +kernel
theorem d_X12_isNode_3 : decode cX12_isNode 3 = .ok (.aload_n 0, 1) := by decide +kernel
theorem d_X12_isNode_4 : decode cX12_isNode 4 = .ok (.invokevirtual 169, 3) := by decide +kernel
theorem d_X12_isNode_7 : decode cX12_isNode 7 = .ok (.iconst 1, 1) := by decide +kernel
theorem d_X12_isNode_8 : decode cX12_isNode 8 = .ok (.isub, 1) := by decide +kernel
theorem d_X12_isNode_9 : decode cX12_isNode 9 = .ok (.i2l, 1) := by decide +kernel
theorem d_X12_isNode_10 : decode cX12_isNode 10 = .ok (.invokestatic 61, 3) := by decide +kernel
theorem d_X12_isNode_13 : decode cX12_isNode 13 = .ok (.ireturn, 1) := by decide +kernel
theorem b_X12_isNode_0 {X : cX} {d : Nat} {μ : mM} {K : Option Value → mM → Prop} {r0 : Nat} {l1 : Int32} (hw12_r0 : WF12 μ r0) (hK : K (some (.int (e_X12_in μ l1.toInt64 0 (((e_X12_nodes μ r0) - 1).toInt64)))) μ) (hz : e_X12_in μ l1.toInt64 0 (((e_X12_nodes μ r0) - 1).toInt64) = 0 ∨ e_X12_in μ l1.toInt64 0 (((e_X12_nodes μ r0) - 1).toInt64) = 1) : G X (Rm (d + 1)) mX12_isNode 0 [(0, .ref r0), (1, .int l1)] [] μ 0 0 K := by
  refine G_iload_n d_X12_isNode_0 rfl 1 rfl ?_
  refine G_i2l (v := l1.toInt64) d_X12_isNode_1 rfl ?_
  refine G_lconst (v := 0) d_X12_isNode_2 rfl ?_
  refine G_aload_n d_X12_isNode_3 rfl 0 rfl ?_
  refine G_callV (M' := mX12_nodes) (R' := (Rm d)) (S := [.long 0, .long l1.toInt64]) [] 12 (w12_kd hw12_r0) cok12 rfl ok_X12_nodes ml_X12_169 pn_X12_nodes (ru_Rm (by decide)) (Nat.le_of_ble_eq_true rfl) d_X12_isNode_4 (s_X12_nodes (μ := μ)  hw12_r0 ?_)
  show G X (Rm (d + 1)) mX12_isNode 7 [(0, .ref r0), (1, .int l1)] [.int (e_X12_nodes μ r0), .long 0, .long l1.toInt64] μ 0 0 K
  refine G_iconst d_X12_isNode_7 ic_1 ?_
  refine G_isub d_X12_isNode_8 ?_
  refine G_i2l (v := ((e_X12_nodes μ r0) - 1).toInt64) d_X12_isNode_9 rfl ?_
  refine G_callS (M' := mX12_in) (R' := (Rm d)) (S := []) [.long l1.toInt64, .long 0, .long (((e_X12_nodes μ r0) - 1).toInt64)] ok_X12_in ml_X12_61 pn_X12_in (ru_Rm (by decide)) (Nat.le_of_ble_eq_true rfl) d_X12_isNode_10 (s_X12_in (μ := μ)   ?_)
  show G X (Rm (d + 1)) mX12_isNode 13 [(0, .ref r0), (1, .int l1)] [.int (e_X12_in μ l1.toInt64 0 (((e_X12_nodes μ r0) - 1).toInt64))] μ 0 0 K
  exact G_zret rfl (nar_b hz) rfl rfl d_X12_isNode_13 hK
def e_X12_isNode (μ : mM) (r0 : Nat) (l1 : Int32) : Int32 := (e_X12_in μ l1.toInt64 0 (((e_X12_nodes μ r0) - 1).toInt64))
theorem s_X12_isNode {X : cX} {d : Nat} {μ : mM} {K : Option Value → mM → Prop} {r0 : Nat} {l1 : Int32} (hw12_r0 : WF12 μ r0) (hz : e_X12_in μ l1.toInt64 0 (((e_X12_nodes μ r0) - 1).toInt64) = 0 ∨ e_X12_in μ l1.toInt64 0 (((e_X12_nodes μ r0) - 1).toInt64) = 1) (hK : K (some (.int (e_X12_isNode μ r0 l1))) μ) : Ct X (Rm (d + 1)) mX12_isNode [.ref r0, .int l1] μ K := Ct_of rfl (Nat.le_of_ble_eq_true rfl) (G_sub [0, 1] rfl (b_X12_isNode_0 hw12_r0 hK hz))
theorem d_X12_isVariable_0 : decode cX12_isVariable 0 = .ok (.iload_n 0, 1) := by decide +kernel
theorem d_X12_isVariable_1 : decode cX12_isVariable 1 = .ok (.i2l, 1) := by decide +kernel
theorem d_X12_isVariable_2 : decode cX12_isVariable 2 = .ok (.lconst 0, 1) := by decide +kernel
theorem d_X12_isVariable_3 : decode cX12_isVariable 3 = .ok (.ldc2_w 103, 3) := by decide +kernel
theorem d_X12_isVariable_6 : decode cX12_isVariable 6 = .ok (.invokestatic 61, 3) := by decide +kernel
theorem d_X12_isVariable_9 : decode cX12_isVariable 9 = .ok (.ireturn, 1) := by decide +kernel
theorem b_X12_isVariable_0 {X : cX} {d : Nat} {μ : mM} {K : Option Value → mM → Prop} {l0 : Int32} (hK : K (some (.int (e_X12_in μ l0.toInt64 0 2))) μ) (hz : e_X12_in μ l0.toInt64 0 2 = 0 ∨ e_X12_in μ l0.toInt64 0 2 = 1) : G X (Rm (d + 1)) mX12_isVariable 0 [(0, .int l0)] [] μ 0 0 K := by
  refine G_iload_n d_X12_isVariable_0 rfl 0 rfl ?_
  refine G_i2l (v := l0.toInt64) d_X12_isVariable_1 rfl ?_
  refine G_lconst (v := 0) d_X12_isVariable_2 rfl ?_
  refine G_ldc2 kl_X12_103 d_X12_isVariable_3 ?_
  refine G_callS (M' := mX12_in) (R' := (Rm d)) (S := []) [.long l0.toInt64, .long 0, .long 2] ok_X12_in ml_X12_61 pn_X12_in (ru_Rm (by decide)) (Nat.le_of_ble_eq_true rfl) d_X12_isVariable_6 (s_X12_in (μ := μ)   ?_)
  show G X (Rm (d + 1)) mX12_isVariable 9 [(0, .int l0)] [.int (e_X12_in μ l0.toInt64 0 2)] μ 0 0 K
  exact G_zret rfl (nar_b hz) rfl rfl d_X12_isVariable_9 hK
def e_X12_isVariable (μ : mM) (l0 : Int32) : Int32 := (e_X12_in μ l0.toInt64 0 2)
theorem s_X12_isVariable {X : cX} {d : Nat} {μ : mM} {K : Option Value → mM → Prop} {l0 : Int32} (hz : e_X12_in μ l0.toInt64 0 2 = 0 ∨ e_X12_in μ l0.toInt64 0 2 = 1) (hK : K (some (.int (e_X12_isVariable μ l0))) μ) : Ct X (Rm (d + 1)) mX12_isVariable [.int l0] μ K := Ct_of rfl (Nat.le_of_ble_eq_true rfl) (G_sub [0] rfl (b_X12_isVariable_0 hK hz))
theorem d_X12_isFormula_0 : decode cX12_isFormula 0 = .ok (.iload_n 1, 1) := by decide +kernel
theorem d_X12_isFormula_1 : decode cX12_isFormula 1 = .ok (.i2l, 1) := by decide +kernel
theorem d_X12_isFormula_2 : decode cX12_isFormula 2 = .ok (.lconst 0, 1) := by decide +kernel
theorem d_X12_isFormula_3 : decode cX12_isFormula 3 = .ok (.aload_n 0, 1) := by decide +kernel
theorem d_X12_isFormula_4 : decode cX12_isFormula 4 = .ok (.getfield 166, 3) := by decide +kernel
theorem d_X12_isFormula_7 : decode cX12_isFormula 7 = .ok (.iconst 1, 1) := by decide +kernel
theorem d_X12_isFormula_8 : decode cX12_isFormula 8 = .ok (.isub, 1) := by decide +kernel
theorem d_X12_isFormula_9 : decode cX12_isFormula 9 = .ok (.i2l, 1) := by decide +kernel
theorem d_X12_isFormula_10 : decode cX12_isFormula 10 = .ok (.invokestatic 61, 3) := by decide +kernel
theorem d_X12_isFormula_13 : decode cX12_isFormula 13 = .ok (.ireturn, 1) := by decide +kernel
theorem b_X12_isFormula_0 {X : cX} {d : Nat} {μ : mM} {K : Option Value → mM → Prop} {r0 : Nat} {l1 : Int32} (hw12_r0 : WF12 μ r0) (hK : K (some (.int (e_X12_in μ l1.toInt64 0 (((iv μ r0 2) - 1).toInt64)))) μ) (hz : e_X12_in μ l1.toInt64 0 (((iv μ r0 2) - 1).toInt64) = 0 ∨ e_X12_in μ l1.toInt64 0 (((iv μ r0 2) - 1).toInt64) = 1) : G X (Rm (d + 1)) mX12_isFormula 0 [(0, .ref r0), (1, .int l1)] [] μ 0 0 K := by
  refine G_iload_n d_X12_isFormula_0 rfl 1 rfl ?_
  refine G_i2l (v := l1.toInt64) d_X12_isFormula_1 rfl ?_
  refine G_lconst (v := 0) d_X12_isFormula_2 rfl ?_
  refine G_aload_n d_X12_isFormula_3 rfl 0 rfl ?_
  refine G_getI 12 2 (w12_kd hw12_r0) cok12 (by decide) rfl fl_X12_166 d_X12_isFormula_4 ?_
  refine G_iconst d_X12_isFormula_7 ic_1 ?_
  refine G_isub d_X12_isFormula_8 ?_
  refine G_i2l (v := ((iv μ r0 2) - 1).toInt64) d_X12_isFormula_9 rfl ?_
  refine G_callS (M' := mX12_in) (R' := (Rm d)) (S := []) [.long l1.toInt64, .long 0, .long (((iv μ r0 2) - 1).toInt64)] ok_X12_in ml_X12_61 pn_X12_in (ru_Rm (by decide)) (Nat.le_of_ble_eq_true rfl) d_X12_isFormula_10 (s_X12_in (μ := μ)   ?_)
  show G X (Rm (d + 1)) mX12_isFormula 13 [(0, .ref r0), (1, .int l1)] [.int (e_X12_in μ l1.toInt64 0 (((iv μ r0 2) - 1).toInt64))] μ 0 0 K
  exact G_zret rfl (nar_b hz) rfl rfl d_X12_isFormula_13 hK
def e_X12_isFormula (μ : mM) (r0 : Nat) (l1 : Int32) : Int32 := (e_X12_in μ l1.toInt64 0 (((iv μ r0 2) - 1).toInt64))
theorem s_X12_isFormula {X : cX} {d : Nat} {μ : mM} {K : Option Value → mM → Prop} {r0 : Nat} {l1 : Int32} (hw12_r0 : WF12 μ r0) (hz : e_X12_in μ l1.toInt64 0 (((iv μ r0 2) - 1).toInt64) = 0 ∨ e_X12_in μ l1.toInt64 0 (((iv μ r0 2) - 1).toInt64) = 1) (hK : K (some (.int (e_X12_isFormula μ r0 l1))) μ) : Ct X (Rm (d + 1)) mX12_isFormula [.ref r0, .int l1] μ K := Ct_of rfl (Nat.le_of_ble_eq_true rfl) (G_sub [0, 1] rfl (b_X12_isFormula_0 hw12_r0 hK hz))
theorem d_X12_isFlag_0 : decode cX12_isFlag 0 = .ok (.iload_n 0, 1) := by decide +kernel
theorem d_X12_isFlag_1 : decode cX12_isFlag 1 = .ok (.i2l, 1) := by decide +kernel
theorem d_X12_isFlag_2 : decode cX12_isFlag 2 = .ok (.lconst 0, 1) := by decide +kernel
theorem d_X12_isFlag_3 : decode cX12_isFlag 3 = .ok (.lconst 1, 1) := by decide +kernel
theorem d_X12_isFlag_4 : decode cX12_isFlag 4 = .ok (.invokestatic 61, 3) := by decide +kernel
theorem d_X12_isFlag_7 : decode cX12_isFlag 7 = .ok (.ireturn, 1) := by decide +kernel
theorem b_X12_isFlag_0 {X : cX} {d : Nat} {μ : mM} {K : Option Value → mM → Prop} {l0 : Int32} (hK : K (some (.int (e_X12_in μ l0.toInt64 0 1))) μ) (hz : e_X12_in μ l0.toInt64 0 1 = 0 ∨ e_X12_in μ l0.toInt64 0 1 = 1) : G X (Rm (d + 1)) mX12_isFlag 0 [(0, .int l0)] [] μ 0 0 K := by
  refine G_iload_n d_X12_isFlag_0 rfl 0 rfl ?_
  refine G_i2l (v := l0.toInt64) d_X12_isFlag_1 rfl ?_
  refine G_lconst (v := 0) d_X12_isFlag_2 rfl ?_
  refine G_lconst (v := 1) d_X12_isFlag_3 rfl ?_
  refine G_callS (M' := mX12_in) (R' := (Rm d)) (S := []) [.long l0.toInt64, .long 0, .long 1] ok_X12_in ml_X12_61 pn_X12_in (ru_Rm (by decide)) (Nat.le_of_ble_eq_true rfl) d_X12_isFlag_4 (s_X12_in (μ := μ)   ?_)
  show G X (Rm (d + 1)) mX12_isFlag 7 [(0, .int l0)] [.int (e_X12_in μ l0.toInt64 0 1)] μ 0 0 K
  exact G_zret rfl (nar_b hz) rfl rfl d_X12_isFlag_7 hK
def e_X12_isFlag (μ : mM) (l0 : Int32) : Int32 := (e_X12_in μ l0.toInt64 0 1)
theorem s_X12_isFlag {X : cX} {d : Nat} {μ : mM} {K : Option Value → mM → Prop} {l0 : Int32} (hz : e_X12_in μ l0.toInt64 0 1 = 0 ∨ e_X12_in μ l0.toInt64 0 1 = 1) (hK : K (some (.int (e_X12_isFlag μ l0))) μ) : Ct X (Rm (d + 1)) mX12_isFlag [.int l0] μ K := Ct_of rfl (Nat.le_of_ble_eq_true rfl) (G_sub [0] rfl (b_X12_isFlag_0 hK hz))
theorem d_X12_node_0 : decode cX12_node 0 = .ok (.aload_n 0, 1) := by decide +kernel
theorem d_X12_node_1 : decode cX12_node 1 = .ok (.iload_n 1, 1) := by decide +kernel
theorem d_X12_node_2 : decode cX12_node 2 = .ok (.invokevirtual 192, 3) := by decide +kernel
theorem d_X12_node_5 : decode cX12_node 5 = .ok (.ifCond .eq 15, 3) := by decide +kernel
theorem d_X12_node_8 : decode cX12_node 8 = .ok (.iload_n 2, 1) := by decide +kernel
theorem d_X12_node_9 : decode cX12_node 9 = .ok (.i2l, 1) := by decide +kernel
theorem d_X12_node_10 : decode cX12_node 10 = .ok (.lconst 0, 1) := by decide +kernel
theorem d_X12_node_11 : decode cX12_node 11 = .ok (.ldc2_w 196, 3) := by decide +kernel
theorem d_X12_node_14 : decode cX12_node 14 = .ok (.invokestatic 61, 3) := by decide +kernel
theorem d_X12_node_17 : decode cX12_node 17 = .ok (.ifCond .ne 5, 3) := by decide +kernel
theorem d_X12_node_20 : decode cX12_node 20 = .ok (.iconst (-1), 1) := by decide +kernel
theorem d_X12_node_21 : decode cX12_node 21 = .ok (.ireturn, 1) := by decide +kernel
theorem d_X12_node_22 : decode cX12_node 22 = .ok (.aload_n 0, 1) := by decide +kernel
theorem d_X12_node_23 : decode cX12_node 23 = .ok (.invokevirtual 198, 3) := by decide +kernel
theorem d_X12_node_26 : decode cX12_node 26 = .ok (.iload_n 2, 1) := by decide +kernel
theorem d_X12_node_27 : decode cX12_node 27 = .ok (.ifCond .ne 12, 3) := by decide +kernel
theorem d_X12_node_30 : decode cX12_node 30 = .ok (.aload_n 0, 1) := by decide +kernel
theorem d_X12_node_31 : decode cX12_node 31 = .ok (.getfield 7, 3) := by decide +kernel
theorem d_X12_node_34 : decode cX12_node 34 = .ok (.iload_n 1, 1) := by decide +kernel
theorem d_X12_node_35 : decode cX12_node 35 = .ok (.iaload, 1) := by decide +kernel
theorem d_X12_node_36 : decode cX12_node 36 = .ok (.goto 27, 3) := by decide +kernel
theorem d_X12_node_39 : decode cX12_node 39 = .ok (.iload_n 2, 1) := by decide +kernel
theorem d_X12_node_40 : decode cX12_node 40 = .ok (.iconst 4, 1) := by decide +kernel
theorem d_X12_node_41 : decode cX12_node 41 = .ok (.if_icmp .ge 14, 3) := by decide +kernel
theorem d_X12_node_44 : decode cX12_node 44 = .ok (.aload_n 0, 1) := by decide +kernel
theorem d_X12_node_45 : decode cX12_node 45 = .ok (.iload_n 2, 1) := by decide +kernel
theorem d_X12_node_46 : decode cX12_node 46 = .ok (.iconst 1, 1) := by decide +kernel
theorem d_X12_node_47 : decode cX12_node 47 = .ok (.isub, 1) := by decide +kernel
theorem d_X12_node_48 : decode cX12_node 48 = .ok (.iload_n 1, 1) := by decide +kernel
theorem d_X12_node_49 : decode cX12_node 49 = .ok (.invokevirtual 178, 3) := by decide +kernel
theorem d_X12_node_52 : decode cX12_node 52 = .ok (.goto 11, 3) := by decide +kernel
theorem d_X12_node_55 : decode cX12_node 55 = .ok (.aload_n 0, 1) := by decide +kernel
theorem d_X12_node_56 : decode cX12_node 56 = .ok (.iload_n 2, 1) := by decide +kernel
theorem d_X12_node_57 : decode cX12_node 57 = .ok (.iconst 4, 1) := by decide +kernel
theorem d_X12_node_58 : decode cX12_node 58 = .ok (.isub, 1) := by decide +kernel
theorem d_X12_node_59 : decode cX12_node 59 = .ok (.iload_n 1, 1) := by decide +kernel
theorem d_X12_node_60 : decode cX12_node 60 = .ok (.invokevirtual 201, 3) := by decide +kernel
theorem d_X12_node_63 : decode cX12_node 63 = .ok (.ireturn, 1) := by decide +kernel
theorem b_X12_node_0 {X : cX} {d : Nat} {μ : mM} {K : Option Value → mM → Prop} {r0 : Nat} {l1 : Int32} {l2 : Int32} (hw12_r0 : WF12 μ r0) (hs : e_X12_in μ l1.toInt64 0 (((e_X12_nodes μ r0) - 1).toInt64) = 0 ∨ e_X12_in μ l1.toInt64 0 (((e_X12_nodes μ r0) - 1).toInt64) = 1) (hK : (e_X12_isNode μ r0 l1) = 0 → K (some (.int (-1))) μ) (hc_routesAll : ¬ (e_X12_isNode μ r0 l1) = 0 → ¬ (e_X12_in μ l2.toInt64 0 6) = 0 → Ct X (Rm (d + 1)) mX12_routesAll [.ref r0] μ (fun r μ2 => G X (Rm (d + 2)) mX12_node 26 [(0, .ref r0), (1, .int l1), (2, .int l2)] (r.toList ++ []) μ2 0 0 K)) (hK_2 : ¬ (e_X12_isNode μ r0 l1) = 0 → (e_X12_in μ l2.toInt64 0 6) = 0 → K (some (.int (-1))) μ) : G X (Rm (d + 2)) mX12_node 0 [(0, .ref r0), (1, .int l1), (2, .int l2)] [] μ 0 0 K := by
  refine G_aload_n d_X12_node_0 rfl 0 rfl ?_
  refine G_iload_n d_X12_node_1 rfl 1 rfl ?_
  refine G_callV (M' := mX12_isNode) (R' := (Rm (d + 1))) (S := []) [.int l1] 12 (w12_kd hw12_r0) cok12 rfl ok_X12_isNode ml_X12_192 pn_X12_isNode (ru_Rm (by decide)) (Nat.le_of_ble_eq_true rfl) d_X12_node_2 (s_X12_isNode (μ := μ)  hw12_r0 hs ?_)
  show G X (Rm (d + 2)) mX12_node 5 [(0, .ref r0), (1, .int l1), (2, .int l2)] [.int (e_X12_isNode μ r0 l1)] μ 0 0 K
  refine G_if_eq (tgt := 20) d_X12_node_5 rfl (fun c0 => ?_) (fun c0 => ?_)
  ·
    refine G_iconst d_X12_node_20 ic_m1 ?_
    exact G_iret rfl rfl rfl d_X12_node_21 (hK c0)
  ·
    refine G_iload_n d_X12_node_8 rfl 2 rfl ?_
    refine G_i2l (v := l2.toInt64) d_X12_node_9 rfl ?_
    refine G_lconst (v := 0) d_X12_node_10 rfl ?_
    refine G_ldc2 kl_X12_196 d_X12_node_11 ?_
    refine G_callS (M' := mX12_in) (R' := (Rm (d + 1))) (S := []) [.long l2.toInt64, .long 0, .long 6] ok_X12_in ml_X12_61 pn_X12_in (ru_Rm (by decide)) (Nat.le_of_ble_eq_true rfl) d_X12_node_14 (s_X12_in (μ := μ)   ?_)
    show G X (Rm (d + 2)) mX12_node 17 [(0, .ref r0), (1, .int l1), (2, .int l2)] [.int (e_X12_in μ l2.toInt64 0 6)] μ 0 0 K
    refine G_if_ne (tgt := 22) d_X12_node_17 rfl (fun c1 => ?_) (fun c1 => ?_)
    ·
      refine G_aload_n d_X12_node_22 rfl 0 rfl ?_
      refine G_callV (M' := mX12_routesAll) (R' := (Rm (d + 1))) (S := []) [] 12 (w12_kd hw12_r0) cok12 rfl ok_X12_routesAll ml_X12_198 pn_X12_routesAll (ru_Rm (by decide)) (Nat.le_of_ble_eq_true rfl) d_X12_node_23 ?_
      exact (hc_routesAll c0 c1)
    ·
      refine G_iconst d_X12_node_20 ic_m1 ?_
      exact G_iret rfl rfl rfl d_X12_node_21 (hK_2 c0 c1)
theorem b_X12_node_26 {X : cX} {d : Nat} {μ : mM} {K : Option Value → mM → Prop} {r0 : Nat} {i1 : Nat} {l2 : Int32} {j0 : Nat} (hw12_r0 : WF12 μ r0) (hc_reachOf : ¬ l2 = 0 → (4 : Int32) ≤ l2 → Ct X (Rm (d + 1)) mX12_reachOf [.ref r0, .int (l2 - 4), .int (nI i1)] μ (fun r μ2 => G X (Rm (d + 2)) mX12_node 63 [] (r.toList ++ []) μ2 0 0 K)) (hi_j0 : ¬ l2 = 0 → ¬ (4 : Int32) ≤ l2 → l2 - 1 = nI j0) (hs : ¬ l2 = 0 → ¬ (4 : Int32) ≤ l2 → ((6 + (6 * j0)) + i1) < 366) (h : ¬ l2 = 0 → ¬ (4 : Int32) ≤ l2 → G X (Rm (d + 2)) mX12_node 63 [] [.int (e_X12_atOf μ r0 j0 i1)] μ 0 0 K) (hb : l2 = 0 → i1 < 366) (h_2 : l2 = 0 → G X (Rm (d + 2)) mX12_node 63 [] [.int (iv μ (r0 + 1) i1)] μ 0 0 K) : G X (Rm (d + 2)) mX12_node 26 [(0, .ref r0), (1, .int (nI i1)), (2, .int l2)] [] μ 0 0 K := by
  refine G_iload_n d_X12_node_26 rfl 2 rfl ?_
  refine G_if_ne (tgt := 39) d_X12_node_27 rfl (fun c0 => ?_) (fun c0 => ?_)
  ·
    refine G_iload_n d_X12_node_39 rfl 2 rfl ?_
    refine G_iconst d_X12_node_40 ic_4 ?_
    refine G_icmp_ge (tgt := 55) d_X12_node_41 rfl (fun c1 => ?_) (fun c1 => ?_)
    ·
      refine G_aload_n d_X12_node_55 rfl 0 rfl ?_
      refine G_iload_n d_X12_node_56 rfl 2 rfl ?_
      refine G_iconst d_X12_node_57 ic_4 ?_
      refine G_isub d_X12_node_58 ?_
      refine G_iload_n d_X12_node_59 rfl 1 rfl ?_
      refine G_sub (L' := []) [] rfl ?_
      refine G_callV (M' := mX12_reachOf) (R' := (Rm (d + 1))) (S := []) [.int (l2 - 4), .int (nI i1)] 12 (w12_kd hw12_r0) cok12 rfl ok_X12_reachOf ml_X12_201 pn_X12_reachOf (ru_Rm (by decide)) (Nat.le_of_ble_eq_true rfl) d_X12_node_60 ?_
      exact (hc_reachOf c0 c1)
    ·
      refine G_aload_n d_X12_node_44 rfl 0 rfl ?_
      refine G_iload_n d_X12_node_45 rfl 2 rfl ?_
      refine G_iconst d_X12_node_46 ic_1 ?_
      refine G_isub d_X12_node_47 ?_
      refine G_iload_n d_X12_node_48 rfl 1 rfl ?_
      refine G_stk (S' := [.int (nI i1), .int (nI j0), .ref r0]) (by rw [(hi_j0 c0 c1)]) ?_
      refine G_callV (M' := mX12_atOf) (R' := (Rm (d + 1))) (S := []) [.int (nI j0), .int (nI i1)] 12 (w12_kd hw12_r0) cok12 rfl ok_X12_atOf ml_X12_178 pn_X12_atOf (ru_Rm (by decide)) (Nat.le_of_ble_eq_true rfl) d_X12_node_49 (s_X12_atOf (μ := μ) (i1 := j0) (i2 := i1) hw12_r0 (hs c0 c1) ?_)
      show G X (Rm (d + 2)) mX12_node 52 [(0, .ref r0), (1, .int (nI i1)), (2, .int l2)] [.int (e_X12_atOf μ r0 j0 i1)] μ 0 0 K
      refine G_goto (tgt := 63) d_X12_node_52 rfl ?_
      refine G_sub (L' := []) [] rfl ?_
      exact (h c0 c1)
  ·
    refine G_aload_n d_X12_node_30 rfl 0 rfl ?_
    refine G_getR (r := r0 + 1) 12 0 (w12_kd hw12_r0) (w12_f0 hw12_r0) cok12 (by decide) rfl fl_X12_7 d_X12_node_31 ?_
    refine G_iload_n d_X12_node_34 rfl 1 rfl ?_
    refine G_iald i1 (w12_k0 hw12_r0) rfl (hb c0) d_X12_node_35 ?_
    refine G_goto (tgt := 63) d_X12_node_36 rfl ?_
    refine G_sub (L' := []) [] rfl ?_
    exact (h_2 c0)
theorem b_X12_node_63 {X : cX} {d : Nat} {μ : mM} {K : Option Value → mM → Prop} {v0 : Int32} (hK : K (some (.int v0)) μ) : G X (Rm (d + 2)) mX12_node 63 [] [.int v0] μ 0 0 K := by
  exact G_iret rfl rfl rfl d_X12_node_63 hK
theorem d_X12_pair_0 : decode cX12_pair 0 = .ok (.aload_n 0, 1) := by decide +kernel
theorem d_X12_pair_1 : decode cX12_pair 1 = .ok (.iload_n 1, 1) := by decide +kernel
theorem d_X12_pair_2 : decode cX12_pair 2 = .ok (.invokevirtual 192, 3) := by decide +kernel
theorem d_X12_pair_5 : decode cX12_pair 5 = .ok (.ifCond .eq 23, 3) := by decide +kernel
theorem d_X12_pair_8 : decode cX12_pair 8 = .ok (.aload_n 0, 1) := by decide +kernel
theorem d_X12_pair_9 : decode cX12_pair 9 = .ok (.iload_n 2, 1) := by decide +kernel
theorem d_X12_pair_10 : decode cX12_pair 10 = .ok (.invokevirtual 192, 3) := by decide +kernel
theorem d_X12_pair_13 : decode cX12_pair 13 = .ok (.ifCond .eq 15, 3) := by decide +kernel
theorem d_X12_pair_16 : decode cX12_pair 16 = .ok (.iload_n 3, 1) := by decide +kernel
theorem d_X12_pair_17 : decode cX12_pair 17 = .ok (.i2l, 1) := by decide +kernel
theorem d_X12_pair_18 : decode cX12_pair 18 = .ok (.lconst 0, 1) := by decide +kernel
theorem d_X12_pair_19 : decode cX12_pair 19 = .ok (.ldc2_w 103, 3) := by decide +kernel
theorem d_X12_pair_22 : decode cX12_pair 22 = .ok (.invokestatic 61, 3) := by decide +kernel
theorem d_X12_pair_25 : decode cX12_pair 25 = .ok (.ifCond .ne 5, 3) := by decide +kernel
theorem d_X12_pair_28 : decode cX12_pair 28 = .ok (.iconst (-1), 1) := by decide +kernel
theorem d_X12_pair_29 : decode cX12_pair 29 = .ok (.ireturn, 1) := by decide +kernel
theorem d_X12_pair_30 : decode cX12_pair 30 = .ok (.aload_n 0, 1) := by decide +kernel
theorem d_X12_pair_31 : decode cX12_pair 31 = .ok (.invokevirtual 198, 3) := by decide +kernel
theorem d_X12_pair_34 : decode cX12_pair 34 = .ok (.iload_n 3, 1) := by decide +kernel
theorem d_X12_pair_35 : decode cX12_pair 35 = .ok (.ifCond .ne 12, 3) := by decide +kernel
theorem d_X12_pair_38 : decode cX12_pair 38 = .ok (.aload_n 0, 1) := by decide +kernel
theorem d_X12_pair_39 : decode cX12_pair 39 = .ok (.iload_n 1, 1) := by decide +kernel
theorem d_X12_pair_40 : decode cX12_pair 40 = .ok (.iload_n 2, 1) := by decide +kernel
theorem d_X12_pair_41 : decode cX12_pair 41 = .ok (.invokevirtual 204, 3) := by decide +kernel
theorem d_X12_pair_44 : decode cX12_pair 44 = .ok (.goto 28, 3) := by decide +kernel
theorem d_X12_pair_47 : decode cX12_pair 47 = .ok (.iload_n 3, 1) := by decide +kernel
theorem d_X12_pair_48 : decode cX12_pair 48 = .ok (.iconst 1, 1) := by decide +kernel
theorem d_X12_pair_49 : decode cX12_pair 49 = .ok (.if_icmp .ne 17, 3) := by decide +kernel
theorem d_X12_pair_52 : decode cX12_pair 52 = .ok (.aload_n 0, 1) := by decide +kernel
theorem d_X12_pair_53 : decode cX12_pair 53 = .ok (.getfield 28, 3) := by decide +kernel
theorem d_X12_pair_56 : decode cX12_pair 56 = .ok (.bipush 6, 2) := by decide +kernel
theorem d_X12_pair_58 : decode cX12_pair 58 = .ok (.iload_n 1, 1) := by decide +kernel
theorem d_X12_pair_59 : decode cX12_pair 59 = .ok (.imul, 1) := by decide +kernel
theorem d_X12_pair_60 : decode cX12_pair 60 = .ok (.iload_n 2, 1) := by decide +kernel
theorem d_X12_pair_61 : decode cX12_pair 61 = .ok (.iadd, 1) := by decide +kernel
theorem d_X12_pair_62 : decode cX12_pair 62 = .ok (.iaload, 1) := by decide +kernel
theorem d_X12_pair_63 : decode cX12_pair 63 = .ok (.goto 9, 3) := by decide +kernel
theorem d_X12_pair_66 : decode cX12_pair 66 = .ok (.aload_n 0, 1) := by decide +kernel
theorem d_X12_pair_67 : decode cX12_pair 67 = .ok (.iload_n 1, 1) := by decide +kernel
theorem d_X12_pair_68 : decode cX12_pair 68 = .ok (.iload_n 2, 1) := by decide +kernel
theorem d_X12_pair_69 : decode cX12_pair 69 = .ok (.invokevirtual 181, 3) := by decide +kernel
theorem d_X12_pair_72 : decode cX12_pair 72 = .ok (.ireturn, 1) := by decide +kernel
theorem b_X12_pair_0 {X : cX} {d : Nat} {μ : mM} {K : Option Value → mM → Prop} {r0 : Nat} {l1 : Int32} {l2 : Int32} {l3 : Int32} (hw12_r0 : WF12 μ r0) (hs : e_X12_in μ l1.toInt64 0 (((e_X12_nodes μ r0) - 1).toInt64) = 0 ∨ e_X12_in μ l1.toInt64 0 (((e_X12_nodes μ r0) - 1).toInt64) = 1) (hK : (e_X12_isNode μ r0 l1) = 0 → K (some (.int (-1))) μ) (hs_2 : ¬ (e_X12_isNode μ r0 l1) = 0 → e_X12_in μ l2.toInt64 0 (((e_X12_nodes μ r0) - 1).toInt64) = 0 ∨ e_X12_in μ l2.toInt64 0 (((e_X12_nodes μ r0) - 1).toInt64) = 1) (hK_2 : ¬ (e_X12_isNode μ r0 l1) = 0 → (e_X12_isNode μ r0 l2) = 0 → K (some (.int (-1))) μ) (hc_routesAll : ¬ (e_X12_isNode μ r0 l1) = 0 → ¬ (e_X12_isNode μ r0 l2) = 0 → ¬ (e_X12_in μ l3.toInt64 0 2) = 0 → Ct X (Rm (d + 1)) mX12_routesAll [.ref r0] μ (fun r μ2 => G X (Rm (d + 2)) mX12_pair 34 [(0, .ref r0), (1, .int l1), (2, .int l2), (3, .int l3)] (r.toList ++ []) μ2 0 0 K)) (hK_3 : ¬ (e_X12_isNode μ r0 l1) = 0 → ¬ (e_X12_isNode μ r0 l2) = 0 → (e_X12_in μ l3.toInt64 0 2) = 0 → K (some (.int (-1))) μ) : G X (Rm (d + 2)) mX12_pair 0 [(0, .ref r0), (1, .int l1), (2, .int l2), (3, .int l3)] [] μ 0 0 K := by
  refine G_aload_n d_X12_pair_0 rfl 0 rfl ?_
  refine G_iload_n d_X12_pair_1 rfl 1 rfl ?_
  refine G_callV (M' := mX12_isNode) (R' := (Rm (d + 1))) (S := []) [.int l1] 12 (w12_kd hw12_r0) cok12 rfl ok_X12_isNode ml_X12_192 pn_X12_isNode (ru_Rm (by decide)) (Nat.le_of_ble_eq_true rfl) d_X12_pair_2 (s_X12_isNode (μ := μ)  hw12_r0 hs ?_)
  show G X (Rm (d + 2)) mX12_pair 5 [(0, .ref r0), (1, .int l1), (2, .int l2), (3, .int l3)] [.int (e_X12_isNode μ r0 l1)] μ 0 0 K
  refine G_if_eq (tgt := 28) d_X12_pair_5 rfl (fun c0 => ?_) (fun c0 => ?_)
  ·
    refine G_iconst d_X12_pair_28 ic_m1 ?_
    exact G_iret rfl rfl rfl d_X12_pair_29 (hK c0)
  ·
    refine G_aload_n d_X12_pair_8 rfl 0 rfl ?_
    refine G_iload_n d_X12_pair_9 rfl 2 rfl ?_
    refine G_callV (M' := mX12_isNode) (R' := (Rm (d + 1))) (S := []) [.int l2] 12 (w12_kd hw12_r0) cok12 rfl ok_X12_isNode ml_X12_192 pn_X12_isNode (ru_Rm (by decide)) (Nat.le_of_ble_eq_true rfl) d_X12_pair_10 (s_X12_isNode (μ := μ)  hw12_r0 (hs_2 c0) ?_)
    show G X (Rm (d + 2)) mX12_pair 13 [(0, .ref r0), (1, .int l1), (2, .int l2), (3, .int l3)] [.int (e_X12_isNode μ r0 l2)] μ 0 0 K
    refine G_if_eq (tgt := 28) d_X12_pair_13 rfl (fun c1 => ?_) (fun c1 => ?_)
    ·
      refine G_iconst d_X12_pair_28 ic_m1 ?_
      exact G_iret rfl rfl rfl d_X12_pair_29 (hK_2 c0 c1)
    ·
      refine G_iload_n d_X12_pair_16 rfl 3 rfl ?_
      refine G_i2l (v := l3.toInt64) d_X12_pair_17 rfl ?_
      refine G_lconst (v := 0) d_X12_pair_18 rfl ?_
      refine G_ldc2 kl_X12_103 d_X12_pair_19 ?_
      refine G_callS (M' := mX12_in) (R' := (Rm (d + 1))) (S := []) [.long l3.toInt64, .long 0, .long 2] ok_X12_in ml_X12_61 pn_X12_in (ru_Rm (by decide)) (Nat.le_of_ble_eq_true rfl) d_X12_pair_22 (s_X12_in (μ := μ)   ?_)
      show G X (Rm (d + 2)) mX12_pair 25 [(0, .ref r0), (1, .int l1), (2, .int l2), (3, .int l3)] [.int (e_X12_in μ l3.toInt64 0 2)] μ 0 0 K
      refine G_if_ne (tgt := 30) d_X12_pair_25 rfl (fun c2 => ?_) (fun c2 => ?_)
      ·
        refine G_aload_n d_X12_pair_30 rfl 0 rfl ?_
        refine G_callV (M' := mX12_routesAll) (R' := (Rm (d + 1))) (S := []) [] 12 (w12_kd hw12_r0) cok12 rfl ok_X12_routesAll ml_X12_198 pn_X12_routesAll (ru_Rm (by decide)) (Nat.le_of_ble_eq_true rfl) d_X12_pair_31 ?_
        exact (hc_routesAll c0 c1 c2)
      ·
        refine G_iconst d_X12_pair_28 ic_m1 ?_
        exact G_iret rfl rfl rfl d_X12_pair_29 (hK_3 c0 c1 c2)
theorem b_X12_pair_34 {X : cX} {d : Nat} {μ : mM} {K : Option Value → mM → Prop} {r0 : Nat} {i1 : Nat} {i2 : Nat} {l3 : Int32} (hw12_r0 : WF12 μ r0) (hs : ¬ l3 = 0 → ¬ l3 = (1 : Int32) → ((nI i1) = (nI i2) → i1 < 366)) (hK : ¬ l3 = 0 → ¬ l3 = (1 : Int32) → K (some (.int (e_X12_sameOf μ r0 i1 (nI i2)))) μ) (hb : ¬ l3 = 0 → l3 = (1 : Int32) → ((6 * i1) + i2) < 36) (hK_2 : ¬ l3 = 0 → l3 = (1 : Int32) → K (some (.int (iv μ (r0 + 7) ((6 * i1) + i2)))) μ) (hs_2 : l3 = 0 → ((24 + (6 * i1)) + i2) < 366) (hK_3 : l3 = 0 → K (some (.int (e_X12_nextOf μ r0 i1 i2))) μ) : G X (Rm (d + 2)) mX12_pair 34 [(0, .ref r0), (1, .int (nI i1)), (2, .int (nI i2)), (3, .int l3)] [] μ 0 0 K := by
  refine G_iload_n d_X12_pair_34 rfl 3 rfl ?_
  refine G_if_ne (tgt := 47) d_X12_pair_35 rfl (fun c0 => ?_) (fun c0 => ?_)
  ·
    refine G_iload_n d_X12_pair_47 rfl 3 rfl ?_
    refine G_iconst d_X12_pair_48 ic_1 ?_
    refine G_icmp_ne (tgt := 66) d_X12_pair_49 rfl (fun c1 => ?_) (fun c1 => ?_)
    ·
      refine G_aload_n d_X12_pair_66 rfl 0 rfl ?_
      refine G_iload_n d_X12_pair_67 rfl 1 rfl ?_
      refine G_iload_n d_X12_pair_68 rfl 2 rfl ?_
      refine G_callV (M' := mX12_sameOf) (R' := (Rm (d + 1))) (S := []) [.int (nI i1), .int (nI i2)] 12 (w12_kd hw12_r0) cok12 rfl ok_X12_sameOf ml_X12_181 pn_X12_sameOf (ru_Rm (by decide)) (Nat.le_of_ble_eq_true rfl) d_X12_pair_69 (s_X12_sameOf (μ := μ) (i1 := i1) hw12_r0 (hs c0 c1) ?_)
      show G X (Rm (d + 2)) mX12_pair 72 [(0, .ref r0), (1, .int (nI i1)), (2, .int (nI i2)), (3, .int l3)] [.int (e_X12_sameOf μ r0 i1 (nI i2))] μ 0 0 K
      exact G_iret rfl rfl rfl d_X12_pair_72 (hK c0 c1)
    ·
      refine G_aload_n d_X12_pair_52 rfl 0 rfl ?_
      refine G_getR (r := r0 + 7) 12 17 (w12_kd hw12_r0) (w12_f17 hw12_r0) cok12 (by decide) rfl fl_X12_28 d_X12_pair_53 ?_
      refine G_bipush d_X12_pair_56 bp_6 ?_
      refine G_iload_n d_X12_pair_58 rfl 1 rfl ?_
      refine G_imul d_X12_pair_59 ?_
      refine G_iload_n d_X12_pair_60 rfl 2 rfl ?_
      refine G_iadd d_X12_pair_61 ?_
      refine G_iald ((6 * i1) + i2) (w12_k17 hw12_r0) (nadd (nmul rfl rfl) rfl) (hb c0 c1) d_X12_pair_62 ?_
      refine G_goto (tgt := 72) d_X12_pair_63 rfl ?_
      exact G_iret rfl rfl rfl d_X12_pair_72 (hK_2 c0 c1)
  ·
    refine G_aload_n d_X12_pair_38 rfl 0 rfl ?_
    refine G_iload_n d_X12_pair_39 rfl 1 rfl ?_
    refine G_iload_n d_X12_pair_40 rfl 2 rfl ?_
    refine G_callV (M' := mX12_nextOf) (R' := (Rm (d + 1))) (S := []) [.int (nI i1), .int (nI i2)] 12 (w12_kd hw12_r0) cok12 rfl ok_X12_nextOf ml_X12_204 pn_X12_nextOf (ru_Rm (by decide)) (Nat.le_of_ble_eq_true rfl) d_X12_pair_41 (s_X12_nextOf (μ := μ) (i1 := i1) (i2 := i2) hw12_r0 (hs_2 c0) ?_)
    show G X (Rm (d + 2)) mX12_pair 44 [(0, .ref r0), (1, .int (nI i1)), (2, .int (nI i2)), (3, .int l3)] [.int (e_X12_nextOf μ r0 i1 i2)] μ 0 0 K
    refine G_goto (tgt := 72) d_X12_pair_44 rfl ?_
    exact G_iret rfl rfl rfl d_X12_pair_72 (hK_3 c0)
theorem d_X12_held_0 : decode cX12_held 0 = .ok (.iload_n 1, 1) := by decide +kernel
theorem d_X12_held_1 : decode cX12_held 1 = .ok (.invokestatic 207, 3) := by decide +kernel
theorem d_X12_held_4 : decode cX12_held 4 = .ok (.ifCond .eq 11, 3) := by decide +kernel
theorem d_X12_held_7 : decode cX12_held 7 = .ok (.aload_n 0, 1) := by decide +kernel
theorem d_X12_held_8 : decode cX12_held 8 = .ok (.iload_n 1, 1) := by decide +kernel
theorem d_X12_held_9 : decode cX12_held 9 = .ok (.invokevirtual 210, 3) := by decide +kernel
theorem d_X12_held_12 : decode cX12_held 12 = .ok (.goto 4, 3) := by decide +kernel
theorem d_X12_held_15 : decode cX12_held 15 = .ok (.iconst (-1), 1) := by decide +kernel
theorem d_X12_held_16 : decode cX12_held 16 = .ok (.ireturn, 1) := by decide +kernel
theorem b_X12_held_0 {X : cX} {d : Nat} {μ : mM} {K : Option Value → mM → Prop} {r0 : Nat} {l1 : Int32} (hs : e_X12_in μ l1.toInt64 0 2 = 0 ∨ e_X12_in μ l1.toInt64 0 2 = 1) (hK : (e_X12_isVariable μ l1) = 0 → K (some (.int (-1))) μ) (hw12_r0 : WF12 μ r0) (hc_heldOf : ¬ (e_X12_isVariable μ l1) = 0 → Ct X (Rm (d + 1)) mX12_heldOf [.ref r0, .int l1] μ (fun r μ2 => G X (Rm (d + 2)) mX12_held 12 [] (r.toList ++ []) μ2 0 0 K)) : G X (Rm (d + 2)) mX12_held 0 [(0, .ref r0), (1, .int l1)] [] μ 0 0 K := by
  refine G_iload_n d_X12_held_0 rfl 1 rfl ?_
  refine G_callS (M' := mX12_isVariable) (R' := (Rm (d + 1))) (S := []) [.int l1] ok_X12_isVariable ml_X12_207 pn_X12_isVariable (ru_Rm (by decide)) (Nat.le_of_ble_eq_true rfl) d_X12_held_1 (s_X12_isVariable (μ := μ)  hs ?_)
  show G X (Rm (d + 2)) mX12_held 4 [(0, .ref r0), (1, .int l1)] [.int (e_X12_isVariable μ l1)] μ 0 0 K
  refine G_if_eq (tgt := 15) d_X12_held_4 rfl (fun c0 => ?_) (fun c0 => ?_)
  ·
    refine G_iconst d_X12_held_15 ic_m1 ?_
    exact G_iret rfl rfl rfl d_X12_held_16 (hK c0)
  ·
    refine G_aload_n d_X12_held_7 rfl 0 rfl ?_
    refine G_iload_n d_X12_held_8 rfl 1 rfl ?_
    refine G_sub (L' := []) [] rfl ?_
    refine G_callV (M' := mX12_heldOf) (R' := (Rm (d + 1))) (S := []) [.int l1] 12 (w12_kd hw12_r0) cok12 rfl ok_X12_heldOf ml_X12_210 pn_X12_heldOf (ru_Rm (by decide)) (Nat.le_of_ble_eq_true rfl) d_X12_held_9 ?_
    exact (hc_heldOf c0)
theorem b_X12_held_12 {X : cX} {d : Nat} {μ : mM} {K : Option Value → mM → Prop} {v0 : Int32} (hK : K (some (.int v0)) μ) : G X (Rm (d + 2)) mX12_held 12 [] [.int v0] μ 0 0 K := by
  refine G_goto (tgt := 16) d_X12_held_12 rfl ?_
  exact G_iret rfl rfl rfl d_X12_held_16 hK
theorem d_X12_told_0 : decode cX12_told 0 = .ok (.aload_n 0, 1) := by decide +kernel
theorem d_X12_told_1 : decode cX12_told 1 = .ok (.getfield 13, 3) := by decide +kernel
theorem d_X12_told_4 : decode cX12_told 4 = .ok (.iload_n 1, 1) := by decide +kernel
theorem d_X12_told_5 : decode cX12_told 5 = .ok (.iconst 1, 1) := by decide +kernel
theorem d_X12_told_6 : decode cX12_told 6 = .ok (.iadd, 1) := by decide +kernel
theorem d_X12_told_7 : decode cX12_told 7 = .ok (.iaload, 1) := by decide +kernel
theorem d_X12_told_8 : decode cX12_told 8 = .ok (.istore_n 2, 1) := by decide +kernel
theorem d_X12_told_9 : decode cX12_told 9 = .ok (.aload_n 0, 1) := by decide +kernel
theorem d_X12_told_10 : decode cX12_told 10 = .ok (.getfield 13, 3) := by decide +kernel
theorem d_X12_told_13 : decode cX12_told 13 = .ok (.iload_n 1, 1) := by decide +kernel
theorem d_X12_told_14 : decode cX12_told 14 = .ok (.iconst 2, 1) := by decide +kernel
theorem d_X12_told_15 : decode cX12_told 15 = .ok (.iadd, 1) := by decide +kernel
theorem d_X12_told_16 : decode cX12_told 16 = .ok (.iaload, 1) := by decide +kernel
theorem d_X12_told_17 : decode cX12_told 17 = .ok (.istore_n 3, 1) := by decide +kernel
theorem d_X12_told_18 : decode cX12_told 18 = .ok (.aload_n 0, 1) := by decide +kernel
theorem d_X12_told_19 : decode cX12_told 19 = .ok (.getfield 13, 3) := by decide +kernel
theorem d_X12_told_22 : decode cX12_told 22 = .ok (.iload_n 1, 1) := by decide +kernel
theorem d_X12_told_23 : decode cX12_told 23 = .ok (.iaload, 1) := by decide +kernel
theorem d_X12_told_24 : decode cX12_told 24 = .ok (.tableswitch 90 0 3 #[32, 44, 56, 73], 32) := by decide +kernel
theorem d_X12_told_56 : decode cX12_told 56 = .ok (.aload_n 0, 1) := by decide +kernel
theorem d_X12_told_57 : decode cX12_told 57 = .ok (.iload_n 2, 1) := by decide +kernel
theorem d_X12_told_58 : decode cX12_told 58 = .ok (.aload_n 0, 1) := by decide +kernel
theorem d_X12_told_59 : decode cX12_told 59 = .ok (.getfield 31, 3) := by decide +kernel
theorem d_X12_told_62 : decode cX12_told 62 = .ok (.iload_n 3, 1) := by decide +kernel
theorem d_X12_told_63 : decode cX12_told 63 = .ok (.iaload, 1) := by decide +kernel
theorem d_X12_told_64 : decode cX12_told 64 = .ok (.invokevirtual 178, 3) := by decide +kernel
theorem d_X12_told_67 : decode cX12_told 67 = .ok (.ireturn, 1) := by decide +kernel
theorem d_X12_told_68 : decode cX12_told 68 = .ok (.aload_n 0, 1) := by decide +kernel
theorem d_X12_told_69 : decode cX12_told 69 = .ok (.iload_n 2, 1) := by decide +kernel
theorem d_X12_told_70 : decode cX12_told 70 = .ok (.aload_n 0, 1) := by decide +kernel
theorem d_X12_told_71 : decode cX12_told 71 = .ok (.getfield 31, 3) := by decide +kernel
theorem d_X12_told_74 : decode cX12_told 74 = .ok (.iload_n 3, 1) := by decide +kernel
theorem d_X12_told_75 : decode cX12_told 75 = .ok (.iaload, 1) := by decide +kernel
theorem d_X12_told_76 : decode cX12_told 76 = .ok (.invokevirtual 201, 3) := by decide +kernel
theorem d_X12_told_79 : decode cX12_told 79 = .ok (.ireturn, 1) := by decide +kernel
theorem d_X12_told_80 : decode cX12_told 80 = .ok (.aload_n 0, 1) := by decide +kernel
theorem d_X12_told_81 : decode cX12_told 81 = .ok (.aload_n 0, 1) := by decide +kernel
theorem d_X12_told_82 : decode cX12_told 82 = .ok (.getfield 31, 3) := by decide +kernel
theorem d_X12_told_85 : decode cX12_told 85 = .ok (.iload_n 2, 1) := by decide +kernel
theorem d_X12_told_86 : decode cX12_told 86 = .ok (.iaload, 1) := by decide +kernel
theorem d_X12_told_87 : decode cX12_told 87 = .ok (.aload_n 0, 1) := by decide +kernel
theorem d_X12_told_88 : decode cX12_told 88 = .ok (.getfield 31, 3) := by decide +kernel
theorem d_X12_told_91 : decode cX12_told 91 = .ok (.iload_n 3, 1) := by decide +kernel
theorem d_X12_told_92 : decode cX12_told 92 = .ok (.iaload, 1) := by decide +kernel
theorem d_X12_told_93 : decode cX12_told 93 = .ok (.invokevirtual 204, 3) := by decide +kernel
theorem d_X12_told_96 : decode cX12_told 96 = .ok (.ireturn, 1) := by decide +kernel
theorem d_X12_told_97 : decode cX12_told 97 = .ok (.aload_n 0, 1) := by decide +kernel
theorem d_X12_told_98 : decode cX12_told 98 = .ok (.aload_n 0, 1) := by decide +kernel
theorem d_X12_told_99 : decode cX12_told 99 = .ok (.getfield 31, 3) := by decide +kernel
theorem d_X12_told_102 : decode cX12_told 102 = .ok (.iload_n 2, 1) := by decide +kernel
theorem d_X12_told_103 : decode cX12_told 103 = .ok (.iaload, 1) := by decide +kernel
theorem d_X12_told_104 : decode cX12_told 104 = .ok (.aload_n 0, 1) := by decide +kernel
theorem d_X12_told_105 : decode cX12_told 105 = .ok (.getfield 31, 3) := by decide +kernel
theorem d_X12_told_108 : decode cX12_told 108 = .ok (.iload_n 3, 1) := by decide +kernel
theorem d_X12_told_109 : decode cX12_told 109 = .ok (.iaload, 1) := by decide +kernel
theorem d_X12_told_110 : decode cX12_told 110 = .ok (.invokevirtual 181, 3) := by decide +kernel
theorem d_X12_told_113 : decode cX12_told 113 = .ok (.ireturn, 1) := by decide +kernel
theorem d_X12_told_114 : decode cX12_told 114 = .ok (.aload_n 0, 1) := by decide +kernel
theorem d_X12_told_115 : decode cX12_told 115 = .ok (.getfield 7, 3) := by decide +kernel
theorem d_X12_told_118 : decode cX12_told 118 = .ok (.aload_n 0, 1) := by decide +kernel
theorem d_X12_told_119 : decode cX12_told 119 = .ok (.getfield 31, 3) := by decide +kernel
theorem d_X12_told_122 : decode cX12_told 122 = .ok (.iload_n 2, 1) := by decide +kernel
theorem d_X12_told_123 : decode cX12_told 123 = .ok (.iaload, 1) := by decide +kernel
theorem d_X12_told_124 : decode cX12_told 124 = .ok (.iaload, 1) := by decide +kernel
theorem d_X12_told_125 : decode cX12_told 125 = .ok (.iconst 1, 1) := by decide +kernel
theorem d_X12_told_126 : decode cX12_told 126 = .ok (.if_icmp .ne 7, 3) := by decide +kernel
theorem d_X12_told_129 : decode cX12_told 129 = .ok (.iconst 2, 1) := by decide +kernel
theorem d_X12_told_130 : decode cX12_told 130 = .ok (.goto 4, 3) := by decide +kernel
theorem d_X12_told_133 : decode cX12_told 133 = .ok (.iconst 0, 1) := by decide +kernel
theorem d_X12_told_134 : decode cX12_told 134 = .ok (.ireturn, 1) := by decide +kernel
theorem b_X12_told_0 {X : cX} {d : Nat} {μ : mM} {K : Option Value → mM → Prop} {r0 : Nat} {i1 : Nat} {j0 : Nat} {j1 : Nat} {j2 : Nat} {j3 : Nat} (hw12_r0 : WF12 μ r0) (hb : (i1 + 1) < 192) (hb_2 : (i1 + 2) < 192) (hb_3 : i1 < 192) (hi_j0 : (iv μ (r0 + 2) i1) = 0 → iv μ (r0 + 2) (i1 + 2) = nI j0) (hb_4 : (iv μ (r0 + 2) i1) = 0 → j0 < 3) (hi_j1 : (iv μ (r0 + 2) i1) = 0 → iv μ (r0 + 2) (i1 + 1) = nI j1) (hi_j2 : (iv μ (r0 + 2) i1) = 0 → iv μ (r0 + 8) j0 = nI j2) (hs : (iv μ (r0 + 2) i1) = 0 → ((6 + (6 * j1)) + j2) < 366) (hK : (iv μ (r0 + 2) i1) = 0 → K (some (.int (e_X12_atOf μ r0 j1 j2))) μ) (hi_j0_2 : (iv μ (r0 + 2) i1) = 1 → iv μ (r0 + 2) (i1 + 2) = nI j0) (hb_5 : (iv μ (r0 + 2) i1) = 1 → j0 < 3) (hc_reachOf : (iv μ (r0 + 2) i1) = 1 → Ct X (Rm (d + 1)) mX12_reachOf [.ref r0, .int (iv μ (r0 + 2) (i1 + 1)), .int (iv μ (r0 + 8) j0)] μ (fun r μ2 => G X (Rm (d + 2)) mX12_told 79 [] (r.toList ++ []) μ2 0 0 K)) (hi_j1_2 : (iv μ (r0 + 2) i1) = 2 → iv μ (r0 + 2) (i1 + 1) = nI j1) (hb_6 : (iv μ (r0 + 2) i1) = 2 → j1 < 3) (hi_j0_3 : (iv μ (r0 + 2) i1) = 2 → iv μ (r0 + 2) (i1 + 2) = nI j0) (hb_7 : (iv μ (r0 + 2) i1) = 2 → j0 < 3) (hi_j3 : (iv μ (r0 + 2) i1) = 2 → iv μ (r0 + 8) j1 = nI j3) (hi_j2_2 : (iv μ (r0 + 2) i1) = 2 → iv μ (r0 + 8) j0 = nI j2) (hs_2 : (iv μ (r0 + 2) i1) = 2 → ((24 + (6 * j3)) + j2) < 366) (hK_2 : (iv μ (r0 + 2) i1) = 2 → K (some (.int (e_X12_nextOf μ r0 j3 j2))) μ) (hi_j1_3 : (iv μ (r0 + 2) i1) = 3 → iv μ (r0 + 2) (i1 + 1) = nI j1) (hb_8 : (iv μ (r0 + 2) i1) = 3 → j1 < 3) (hi_j0_4 : (iv μ (r0 + 2) i1) = 3 → iv μ (r0 + 2) (i1 + 2) = nI j0) (hb_9 : (iv μ (r0 + 2) i1) = 3 → j0 < 3) (hi_j3_2 : (iv μ (r0 + 2) i1) = 3 → iv μ (r0 + 8) j1 = nI j3) (hs_3 : (iv μ (r0 + 2) i1) = 3 → ((nI j3) = (iv μ (r0 + 8) j0) → j3 < 366)) (hK_3 : (iv μ (r0 + 2) i1) = 3 → K (some (.int (e_X12_sameOf μ r0 j3 (iv μ (r0 + 8) j0)))) μ) (hi_j1_4 : ((iv μ (r0 + 2) i1).toInt < 0 ∨ 3 < (iv μ (r0 + 2) i1).toInt) → iv μ (r0 + 2) (i1 + 1) = nI j1) (hb_10 : ((iv μ (r0 + 2) i1).toInt < 0 ∨ 3 < (iv μ (r0 + 2) i1).toInt) → j1 < 3) (hi_j3_3 : ((iv μ (r0 + 2) i1).toInt < 0 ∨ 3 < (iv μ (r0 + 2) i1).toInt) → iv μ (r0 + 8) j1 = nI j3) (hb_11 : ((iv μ (r0 + 2) i1).toInt < 0 ∨ 3 < (iv μ (r0 + 2) i1).toInt) → j3 < 366) (hK_4 : ((iv μ (r0 + 2) i1).toInt < 0 ∨ 3 < (iv μ (r0 + 2) i1).toInt) → ¬ (iv μ (r0 + 1) j3) = (1 : Int32) → K (some (.int 0)) μ) (hK_5 : ((iv μ (r0 + 2) i1).toInt < 0 ∨ 3 < (iv μ (r0 + 2) i1).toInt) → (iv μ (r0 + 1) j3) = (1 : Int32) → K (some (.int 2)) μ) : G X (Rm (d + 2)) mX12_told 0 [(0, .ref r0), (1, .int (nI i1))] [] μ 0 0 K := by
  refine G_aload_n d_X12_told_0 rfl 0 rfl ?_
  refine G_getR (r := r0 + 2) 12 1 (w12_kd hw12_r0) (w12_f1 hw12_r0) cok12 (by decide) rfl fl_X12_13 d_X12_told_1 ?_
  refine G_iload_n d_X12_told_4 rfl 1 rfl ?_
  refine G_iconst d_X12_told_5 ic_1 ?_
  refine G_iadd d_X12_told_6 ?_
  refine G_iald (i1 + 1) (w12_k1 hw12_r0) (nadd rfl rfl) hb d_X12_told_7 ?_
  refine G_istore_n (L' := [(2, .int (iv μ (r0 + 2) (i1 + 1))), (0, .ref r0), (1, .int (nI i1))]) d_X12_told_8 rfl (by decide) rfl ?_
  refine G_aload_n d_X12_told_9 rfl 1 rfl ?_
  refine G_getR (r := r0 + 2) 12 1 (w12_kd hw12_r0) (w12_f1 hw12_r0) cok12 (by decide) rfl fl_X12_13 d_X12_told_10 ?_
  refine G_iload_n d_X12_told_13 rfl 2 rfl ?_
  refine G_iconst d_X12_told_14 ic_2 ?_
  refine G_iadd d_X12_told_15 ?_
  refine G_iald (i1 + 2) (w12_k1 hw12_r0) (nadd rfl rfl) hb_2 d_X12_told_16 ?_
  refine G_istore_n (L' := [(3, .int (iv μ (r0 + 2) (i1 + 2))), (2, .int (iv μ (r0 + 2) (i1 + 1))), (0, .ref r0), (1, .int (nI i1))]) d_X12_told_17 rfl (by decide) rfl ?_
  refine G_aload_n d_X12_told_18 rfl 2 rfl ?_
  refine G_getR (r := r0 + 2) 12 1 (w12_kd hw12_r0) (w12_f1 hw12_r0) cok12 (by decide) rfl fl_X12_13 d_X12_told_19 ?_
  refine G_iload_n d_X12_told_22 rfl 3 rfl ?_
  refine G_iald i1 (w12_k1 hw12_r0) rfl hb_3 d_X12_told_23 ?_
  by_cases c0 : (iv μ (r0 + 2) i1) = 0
  ·
    refine G_tableIn (tgt := 56) (off := 32) d_X12_told_24 (by rw [c0]; decide) (by rw [c0]; decide) (by rw [c0]; decide) rfl ?_
    refine G_aload_n d_X12_told_56 rfl 2 rfl ?_
    refine G_iload_n d_X12_told_57 rfl 1 rfl ?_
    refine G_aload_n d_X12_told_58 rfl 2 rfl ?_
    refine G_getR (r := r0 + 8) 12 18 (w12_kd hw12_r0) (w12_f18 hw12_r0) cok12 (by decide) rfl fl_X12_31 d_X12_told_59 ?_
    refine G_iload_n d_X12_told_62 rfl 0 rfl ?_
    refine G_iald j0 (w12_k18 hw12_r0) (hi_j0 c0) (hb_4 c0) d_X12_told_63 ?_
    refine G_stk (S' := [.int (nI j2), .int (nI j1), .ref r0]) (by rw [(hi_j1 c0), (hi_j2 c0)]) ?_
    refine G_callV (M' := mX12_atOf) (R' := (Rm (d + 1))) (S := []) [.int (nI j1), .int (nI j2)] 12 (w12_kd hw12_r0) cok12 rfl ok_X12_atOf ml_X12_178 pn_X12_atOf (ru_Rm (by decide)) (Nat.le_of_ble_eq_true rfl) d_X12_told_64 (s_X12_atOf (μ := μ) (i1 := j1) (i2 := j2) hw12_r0 (hs c0) ?_)
    show G X (Rm (d + 2)) mX12_told 67 [(3, .int (iv μ (r0 + 2) (i1 + 2))), (2, .int (iv μ (r0 + 2) (i1 + 1))), (0, .ref r0), (1, .int (nI i1))] [.int (e_X12_atOf μ r0 j1 j2)] μ 0 0 K
    exact G_iret rfl rfl rfl d_X12_told_67 (hK c0)
  have z0 := lv_neT c0 (show (0 : Int32).toInt = 0 from rfl)
  by_cases c0 : (iv μ (r0 + 2) i1) = 1
  ·
    refine G_tableIn (tgt := 68) (off := 44) d_X12_told_24 (by rw [c0]; decide) (by rw [c0]; decide) (by rw [c0]; decide) rfl ?_
    refine G_aload_n d_X12_told_68 rfl 2 rfl ?_
    refine G_iload_n d_X12_told_69 rfl 1 rfl ?_
    refine G_aload_n d_X12_told_70 rfl 2 rfl ?_
    refine G_getR (r := r0 + 8) 12 18 (w12_kd hw12_r0) (w12_f18 hw12_r0) cok12 (by decide) rfl fl_X12_31 d_X12_told_71 ?_
    refine G_iload_n d_X12_told_74 rfl 0 rfl ?_
    refine G_iald j0 (w12_k18 hw12_r0) (hi_j0_2 c0) (hb_5 c0) d_X12_told_75 ?_
    refine G_sub (L' := []) [] rfl ?_
    refine G_callV (M' := mX12_reachOf) (R' := (Rm (d + 1))) (S := []) [.int (iv μ (r0 + 2) (i1 + 1)), .int (iv μ (r0 + 8) j0)] 12 (w12_kd hw12_r0) cok12 rfl ok_X12_reachOf ml_X12_201 pn_X12_reachOf (ru_Rm (by decide)) (Nat.le_of_ble_eq_true rfl) d_X12_told_76 ?_
    exact (hc_reachOf c0)
  have z1 := lv_neT c0 (show (1 : Int32).toInt = 1 from rfl)
  by_cases c0 : (iv μ (r0 + 2) i1) = 2
  ·
    refine G_tableIn (tgt := 80) (off := 56) d_X12_told_24 (by rw [c0]; decide) (by rw [c0]; decide) (by rw [c0]; decide) rfl ?_
    refine G_aload_n d_X12_told_80 rfl 2 rfl ?_
    refine G_aload_n d_X12_told_81 rfl 2 rfl ?_
    refine G_getR (r := r0 + 8) 12 18 (w12_kd hw12_r0) (w12_f18 hw12_r0) cok12 (by decide) rfl fl_X12_31 d_X12_told_82 ?_
    refine G_iload_n d_X12_told_85 rfl 1 rfl ?_
    refine G_iald j1 (w12_k18 hw12_r0) (hi_j1_2 c0) (hb_6 c0) d_X12_told_86 ?_
    refine G_aload_n d_X12_told_87 rfl 2 rfl ?_
    refine G_getR (r := r0 + 8) 12 18 (w12_kd hw12_r0) (w12_f18 hw12_r0) cok12 (by decide) rfl fl_X12_31 d_X12_told_88 ?_
    refine G_iload_n d_X12_told_91 rfl 0 rfl ?_
    refine G_iald j0 (w12_k18 hw12_r0) (hi_j0_3 c0) (hb_7 c0) d_X12_told_92 ?_
    refine G_stk (S' := [.int (nI j2), .int (nI j3), .ref r0]) (by rw [(hi_j3 c0), (hi_j2_2 c0)]) ?_
    refine G_callV (M' := mX12_nextOf) (R' := (Rm (d + 1))) (S := []) [.int (nI j3), .int (nI j2)] 12 (w12_kd hw12_r0) cok12 rfl ok_X12_nextOf ml_X12_204 pn_X12_nextOf (ru_Rm (by decide)) (Nat.le_of_ble_eq_true rfl) d_X12_told_93 (s_X12_nextOf (μ := μ) (i1 := j3) (i2 := j2) hw12_r0 (hs_2 c0) ?_)
    show G X (Rm (d + 2)) mX12_told 96 [(3, .int (iv μ (r0 + 2) (i1 + 2))), (2, .int (iv μ (r0 + 2) (i1 + 1))), (0, .ref r0), (1, .int (nI i1))] [.int (e_X12_nextOf μ r0 j3 j2)] μ 0 0 K
    exact G_iret rfl rfl rfl d_X12_told_96 (hK_2 c0)
  have z2 := lv_neT c0 (show (2 : Int32).toInt = 2 from rfl)
  by_cases c0 : (iv μ (r0 + 2) i1) = 3
  ·
    refine G_tableIn (tgt := 97) (off := 73) d_X12_told_24 (by rw [c0]; decide) (by rw [c0]; decide) (by rw [c0]; decide) rfl ?_
    refine G_aload_n d_X12_told_97 rfl 2 rfl ?_
    refine G_aload_n d_X12_told_98 rfl 2 rfl ?_
    refine G_getR (r := r0 + 8) 12 18 (w12_kd hw12_r0) (w12_f18 hw12_r0) cok12 (by decide) rfl fl_X12_31 d_X12_told_99 ?_
    refine G_iload_n d_X12_told_102 rfl 1 rfl ?_
    refine G_iald j1 (w12_k18 hw12_r0) (hi_j1_3 c0) (hb_8 c0) d_X12_told_103 ?_
    refine G_aload_n d_X12_told_104 rfl 2 rfl ?_
    refine G_getR (r := r0 + 8) 12 18 (w12_kd hw12_r0) (w12_f18 hw12_r0) cok12 (by decide) rfl fl_X12_31 d_X12_told_105 ?_
    refine G_iload_n d_X12_told_108 rfl 0 rfl ?_
    refine G_iald j0 (w12_k18 hw12_r0) (hi_j0_4 c0) (hb_9 c0) d_X12_told_109 ?_
    refine G_stk (S' := [.int (iv μ (r0 + 8) j0), .int (nI j3), .ref r0]) (by rw [(hi_j3_2 c0)]) ?_
    refine G_callV (M' := mX12_sameOf) (R' := (Rm (d + 1))) (S := []) [.int (nI j3), .int (iv μ (r0 + 8) j0)] 12 (w12_kd hw12_r0) cok12 rfl ok_X12_sameOf ml_X12_181 pn_X12_sameOf (ru_Rm (by decide)) (Nat.le_of_ble_eq_true rfl) d_X12_told_110 (s_X12_sameOf (μ := μ) (i1 := j3) hw12_r0 (hs_3 c0) ?_)
    show G X (Rm (d + 2)) mX12_told 113 [(3, .int (iv μ (r0 + 2) (i1 + 2))), (2, .int (iv μ (r0 + 2) (i1 + 1))), (0, .ref r0), (1, .int (nI i1))] [.int (e_X12_sameOf μ r0 j3 (iv μ (r0 + 8) j0))] μ 0 0 K
    exact G_iret rfl rfl rfl d_X12_told_113 (hK_3 c0)
  have z3 := lv_neT c0 (show (3 : Int32).toInt = 3 from rfl)
  have c0 : (iv μ (r0 + 2) i1).toInt < 0 ∨ 3 < (iv μ (r0 + 2) i1).toInt := by omega
  refine G_tableOut (tgt := 114) d_X12_told_24 c0 rfl ?_
  refine G_aload_n d_X12_told_114 rfl 2 rfl ?_
  refine G_getR (r := r0 + 1) 12 0 (w12_kd hw12_r0) (w12_f0 hw12_r0) cok12 (by decide) rfl fl_X12_7 d_X12_told_115 ?_
  refine G_aload_n d_X12_told_118 rfl 2 rfl ?_
  refine G_getR (r := r0 + 8) 12 18 (w12_kd hw12_r0) (w12_f18 hw12_r0) cok12 (by decide) rfl fl_X12_31 d_X12_told_119 ?_
  refine G_iload_n d_X12_told_122 rfl 1 rfl ?_
  refine G_iald j1 (w12_k18 hw12_r0) (hi_j1_4 c0) (hb_10 c0) d_X12_told_123 ?_
  refine G_iald j3 (w12_k0 hw12_r0) (hi_j3_3 c0) (hb_11 c0) d_X12_told_124 ?_
  refine G_iconst d_X12_told_125 ic_1 ?_
  refine G_icmp_ne (tgt := 133) d_X12_told_126 rfl (fun c1 => ?_) (fun c1 => ?_)
  ·
    refine G_iconst d_X12_told_133 ic_0 ?_
    exact G_iret rfl rfl rfl d_X12_told_134 (hK_4 c0 c1)
  ·
    refine G_iconst d_X12_told_129 ic_2 ?_
    refine G_goto (tgt := 134) d_X12_told_130 rfl ?_
    exact G_iret rfl rfl rfl d_X12_told_134 (hK_5 c0 c1)
theorem b_X12_told_79 {X : cX} {d : Nat} {μ : mM} {K : Option Value → mM → Prop} {v0 : Int32} (hK : K (some (.int v0)) μ) : G X (Rm (d + 2)) mX12_told 79 [] [.int v0] μ 0 0 K := by
  exact G_iret rfl rfl rfl d_X12_told_79 hK
