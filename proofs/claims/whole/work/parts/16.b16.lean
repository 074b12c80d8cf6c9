theorem d_X12_isFitting_0 : decode cX12_isFitting 0 = .ok (.aload_n 0, 1) := by decide +kernel
theorem d_X12_isFitting_1 : decode cX12_isFitting 1 = .ok (.getfield 7, 3) := by decide +kernel
theorem d_X12_isFitting_4 : decode cX12_isFitting 4 = .ok (.iload_n 2, 1) := by decide +kernel
theorem d_X12_isFitting_5 : decode cX12_isFitting 5 = .ok (.iload_n 3, 1) := by decide +kernel
theorem d_X12_isFitting_6 : decode cX12_isFitting 6 = .ok (.iadd, 1) := by decide +kernel
theorem d_X12_isFitting_7 : decode cX12_isFitting 7 = .ok (.iaload, 1) := by decide +kernel
theorem d_X12_isFitting_8 : decode cX12_isFitting 8 = .ok (.ifCond .eq 20, 3) := by decide +kernel
theorem d_X12_isFitting_11 : decode cX12_isFitting 11 = .ok (.aload_n 0, 1) := by decide +kernel
theorem d_X12_isFitting_12 : decode cX12_isFitting 12 = .ok (.getfield 7, 3) := by decide +kernel
theorem d_X12_isFitting_15 : decode cX12_isFitting 15 = .ok (.iload_n 1, 1) := by decide +kernel
theorem d_X12_isFitting_16 : decode cX12_isFitting 16 = .ok (.aload_n 0, 1) := by decide +kernel
theorem d_X12_isFitting_17 : decode cX12_isFitting 17 = .ok (.getfield 47, 3) := by decide +kernel
theorem d_X12_isFitting_20 : decode cX12_isFitting 20 = .ok (.iload_n 3, 1) := by decide +kernel
theorem d_X12_isFitting_21 : decode cX12_isFitting 21 = .ok (.iaload, 1) := by decide +kernel
theorem d_X12_isFitting_22 : decode cX12_isFitting 22 = .ok (.iadd, 1) := by decide +kernel
theorem d_X12_isFitting_23 : decode cX12_isFitting 23 = .ok (.iaload, 1) := by decide +kernel
theorem d_X12_isFitting_24 : decode cX12_isFitting 24 = .ok (.iconst 1, 1) := by decide +kernel
theorem d_X12_isFitting_25 : decode cX12_isFitting 25 = .ok (.if_icmp .ne 7, 3) := by decide +kernel
theorem d_X12_isFitting_28 : decode cX12_isFitting 28 = .ok (.iconst 1, 1) := by decide +kernel
theorem d_X12_isFitting_29 : decode cX12_isFitting 29 = .ok (.goto 4, 3) := by decide +kernel
theorem d_X12_isFitting_32 : decode cX12_isFitting 32 = .ok (.iconst 0, 1) := by decide +kernel
theorem d_X12_isFitting_33 : decode cX12_isFitting 33 = .ok (.istore 4, 2) := by decide +kernel
theorem d_X12_isFitting_35 : decode cX12_isFitting 35 = .ok (.iconst 0, 1) := by decide +kernel
theorem d_X12_isFitting_36 : decode cX12_isFitting 36 = .ok (.istore 5, 2) := by decide +kernel
theorem d_X12_isFitting_38 : decode cX12_isFitting 38 = .ok (.iload 5, 2) := by decide +kernel
theorem d_X12_isFitting_40 : decode cX12_isFitting 40 = .ok (.iconst 3, 1) := by decide +kernel
theorem d_X12_isFitting_41 : decode cX12_isFitting 41 = .ok (.if_icmp .ge 67, 3) := by decide +kernel
theorem d_X12_isFitting_44 : decode cX12_isFitting 44 = .ok (.iload 4, 2) := by decide +kernel
theorem d_X12_isFitting_46 : decode cX12_isFitting 46 = .ok (.ifCond .eq 53, 3) := by decide +kernel
theorem d_X12_isFitting_49 : decode cX12_isFitting 49 = .ok (.aload_n 0, 1) := by decide +kernel
theorem d_X12_isFitting_50 : decode cX12_isFitting 50 = .ok (.aload_n 0, 1) := by decide +kernel
theorem d_X12_isFitting_51 : decode cX12_isFitting 51 = .ok (.getfield 7, 3) := by decide +kernel
theorem d_X12_isFitting_54 : decode cX12_isFitting 54 = .ok (.iload_n 1, 1) := by decide +kernel
theorem d_X12_isFitting_55 : decode cX12_isFitting 55 = .ok (.bipush 6, 2) := by decide +kernel
theorem d_X12_isFitting_57 : decode cX12_isFitting 57 = .ok (.iadd, 1) := by decide +kernel
theorem d_X12_isFitting_58 : decode cX12_isFitting 58 = .ok (.bipush 6, 2) := by decide +kernel
theorem d_X12_isFitting_60 : decode cX12_isFitting 60 = .ok (.iload 5, 2) := by decide +kernel
theorem d_X12_isFitting_62 : decode cX12_isFitting 62 = .ok (.imul, 1) := by decide +kernel
theorem d_X12_isFitting_63 : decode cX12_isFitting 63 = .ok (.iadd, 1) := by decide +kernel
theorem d_X12_isFitting_64 : decode cX12_isFitting 64 = .ok (.aload_n 0, 1) := by decide +kernel
theorem d_X12_isFitting_65 : decode cX12_isFitting 65 = .ok (.getfield 47, 3) := by decide +kernel
theorem d_X12_isFitting_68 : decode cX12_isFitting 68 = .ok (.iload_n 3, 1) := by decide +kernel
theorem d_X12_isFitting_69 : decode cX12_isFitting 69 = .ok (.iaload, 1) := by decide +kernel
theorem d_X12_isFitting_70 : decode cX12_isFitting 70 = .ok (.iadd, 1) := by decide +kernel
theorem d_X12_isFitting_71 : decode cX12_isFitting 71 = .ok (.iaload, 1) := by decide +kernel
theorem d_X12_isFitting_72 : decode cX12_isFitting 72 = .ok (.aload_n 0, 1) := by decide +kernel
theorem d_X12_isFitting_73 : decode cX12_isFitting 73 = .ok (.getfield 7, 3) := by decide +kernel
theorem d_X12_isFitting_76 : decode cX12_isFitting 76 = .ok (.iload_n 2, 1) := by decide +kernel
theorem d_X12_isFitting_77 : decode cX12_isFitting 77 = .ok (.bipush 6, 2) := by decide +kernel
theorem d_X12_isFitting_79 : decode cX12_isFitting 79 = .ok (.iadd, 1) := by decide +kernel
theorem d_X12_isFitting_80 : decode cX12_isFitting 80 = .ok (.bipush 6, 2) := by decide +kernel
theorem d_X12_isFitting_82 : decode cX12_isFitting 82 = .ok (.iload 5, 2) := by decide +kernel
theorem d_X12_isFitting_84 : decode cX12_isFitting 84 = .ok (.imul, 1) := by decide +kernel
theorem d_X12_isFitting_85 : decode cX12_isFitting 85 = .ok (.iadd, 1) := by decide +kernel
theorem d_X12_isFitting_86 : decode cX12_isFitting 86 = .ok (.iload_n 3, 1) := by decide +kernel
theorem d_X12_isFitting_87 : decode cX12_isFitting 87 = .ok (.iadd, 1) := by decide +kernel
theorem d_X12_isFitting_88 : decode cX12_isFitting 88 = .ok (.iaload, 1) := by decide +kernel
theorem d_X12_isFitting_89 : decode cX12_isFitting 89 = .ok (.invokevirtual 290, 3) := by decide +kernel
theorem d_X12_isFitting_92 : decode cX12_isFitting 92 = .ok (.ifCond .eq 7, 3) := by decide +kernel
theorem d_X12_isFitting_95 : decode cX12_isFitting 95 = .ok (.iconst 1, 1) := by decide +kernel
theorem d_X12_isFitting_96 : decode cX12_isFitting 96 = .ok (.goto 4, 3) := by decide +kernel
theorem d_X12_isFitting_99 : decode cX12_isFitting 99 = .ok (.iconst 0, 1) := by decide +kernel
theorem d_X12_isFitting_100 : decode cX12_isFitting 100 = .ok (.istore 4, 2) := by decide +kernel
theorem d_X12_isFitting_102 : decode cX12_isFitting 102 = .ok (.iinc 5 1, 3) := by decide +kernel
theorem d_X12_isFitting_105 : decode cX12_isFitting 105 = .ok (.goto (-67), 3) := by decide +kernel
theorem d_X12_isFitting_108 : decode cX12_isFitting 108 = .ok (.iconst 0, 1) := by decide +kernel
theorem d_X12_isFitting_109 : decode cX12_isFitting 109 = .ok (.istore 5, 2) := by decide +kernel
theorem d_X12_isFitting_111 : decode cX12_isFitting 111 = .ok (.iload 5, 2) := by decide +kernel
theorem d_X12_isFitting_113 : decode cX12_isFitting 113 = .ok (.iload_n 3, 1) := by decide +kernel
theorem d_X12_isFitting_114 : decode cX12_isFitting 114 = .ok (.if_icmp .gt 186, 3) := by decide +kernel
theorem d_X12_isFitting_117 : decode cX12_isFitting 117 = .ok (.iload 4, 2) := by decide +kernel
theorem d_X12_isFitting_119 : decode cX12_isFitting 119 = .ok (.ifCond .eq 46, 3) := by decide +kernel
theorem d_X12_isFitting_122 : decode cX12_isFitting 122 = .ok (.iload 5, 2) := by decide +kernel
theorem d_X12_isFitting_124 : decode cX12_isFitting 124 = .ok (.iload_n 3, 1) := by decide +kernel
theorem d_X12_isFitting_125 : decode cX12_isFitting 125 = .ok (.if_icmp .eq 36, 3) := by decide +kernel
theorem d_X12_isFitting_128 : decode cX12_isFitting 128 = .ok (.aload_n 0, 1) := by decide +kernel
theorem d_X12_isFitting_129 : decode cX12_isFitting 129 = .ok (.getfield 47, 3) := by decide +kernel
theorem d_X12_isFitting_132 : decode cX12_isFitting 132 = .ok (.iload 5, 2) := by decide +kernel
theorem d_X12_isFitting_134 : decode cX12_isFitting 134 = .ok (.iaload, 1) := by decide +kernel
theorem d_X12_isFitting_135 : decode cX12_isFitting 135 = .ok (.aload_n 0, 1) := by decide +kernel
theorem d_X12_isFitting_136 : decode cX12_isFitting 136 = .ok (.getfield 47, 3) := by decide +kernel
theorem d_X12_isFitting_139 : decode cX12_isFitting 139 = .ok (.iload_n 3, 1) := by decide +kernel
theorem d_X12_isFitting_140 : decode cX12_isFitting 140 = .ok (.iaload, 1) := by decide +kernel
theorem d_X12_isFitting_141 : decode cX12_isFitting 141 = .ok (.if_icmp .ne 20, 3) := by decide +kernel
theorem d_X12_isFitting_144 : decode cX12_isFitting 144 = .ok (.aload_n 0, 1) := by decide +kernel
theorem d_X12_isFitting_145 : decode cX12_isFitting 145 = .ok (.getfield 7, 3) := by decide +kernel
theorem d_X12_isFitting_148 : decode cX12_isFitting 148 = .ok (.iload_n 1, 1) := by decide +kernel
theorem d_X12_isFitting_149 : decode cX12_isFitting 149 = .ok (.aload_n 0, 1) := by decide +kernel
theorem d_X12_isFitting_150 : decode cX12_isFitting 150 = .ok (.getfield 47, 3) := by decide +kernel
theorem d_X12_isFitting_153 : decode cX12_isFitting 153 = .ok (.iload_n 3, 1) := by decide +kernel
theorem d_X12_isFitting_154 : decode cX12_isFitting 154 = .ok (.iaload, 1) := by decide +kernel
theorem d_X12_isFitting_155 : decode cX12_isFitting 155 = .ok (.iadd, 1) := by decide +kernel
theorem d_X12_isFitting_156 : decode cX12_isFitting 156 = .ok (.iaload, 1) := by decide +kernel
theorem d_X12_isFitting_157 : decode cX12_isFitting 157 = .ok (.iconst 1, 1) := by decide +kernel
theorem d_X12_isFitting_158 : decode cX12_isFitting 158 = .ok (.if_icmp .ne 7, 3) := by decide +kernel
theorem d_X12_isFitting_161 : decode cX12_isFitting 161 = .ok (.iconst 1, 1) := by decide +kernel
theorem d_X12_isFitting_162 : decode cX12_isFitting 162 = .ok (.goto 4, 3) := by decide +kernel
theorem d_X12_isFitting_165 : decode cX12_isFitting 165 = .ok (.iconst 0, 1) := by decide +kernel
theorem d_X12_isFitting_166 : decode cX12_isFitting 166 = .ok (.istore 4, 2) := by decide +kernel
theorem d_X12_isFitting_168 : decode cX12_isFitting 168 = .ok (.iload 4, 2) := by decide +kernel
theorem d_X12_isFitting_170 : decode cX12_isFitting 170 = .ok (.ifCond .eq 58, 3) := by decide +kernel
theorem d_X12_isFitting_173 : decode cX12_isFitting 173 = .ok (.aload_n 0, 1) := by decide +kernel
theorem d_X12_isFitting_174 : decode cX12_isFitting 174 = .ok (.aload_n 0, 1) := by decide +kernel
theorem d_X12_isFitting_175 : decode cX12_isFitting 175 = .ok (.getfield 7, 3) := by decide +kernel
theorem d_X12_isFitting_178 : decode cX12_isFitting 178 = .ok (.iload_n 1, 1) := by decide +kernel
theorem d_X12_isFitting_179 : decode cX12_isFitting 179 = .ok (.bipush 24, 2) := by decide +kernel
theorem d_X12_isFitting_181 : decode cX12_isFitting 181 = .ok (.iadd, 1) := by decide +kernel
theorem d_X12_isFitting_182 : decode cX12_isFitting 182 = .ok (.bipush 6, 2) := by decide +kernel
theorem d_X12_isFitting_184 : decode cX12_isFitting 184 = .ok (.aload_n 0, 1) := by decide +kernel
theorem d_X12_isFitting_185 : decode cX12_isFitting 185 = .ok (.getfield 47, 3) := by decide +kernel
theorem d_X12_isFitting_188 : decode cX12_isFitting 188 = .ok (.iload_n 3, 1) := by decide +kernel
theorem d_X12_isFitting_189 : decode cX12_isFitting 189 = .ok (.iaload, 1) := by decide +kernel
theorem d_X12_isFitting_190 : decode cX12_isFitting 190 = .ok (.imul, 1) := by decide +kernel
theorem d_X12_isFitting_191 : decode cX12_isFitting 191 = .ok (.iadd, 1) := by decide +kernel
theorem d_X12_isFitting_192 : decode cX12_isFitting 192 = .ok (.aload_n 0, 1) := by decide +kernel
theorem d_X12_isFitting_193 : decode cX12_isFitting 193 = .ok (.getfield 47, 3) := by decide +kernel
theorem d_X12_isFitting_196 : decode cX12_isFitting 196 = .ok (.iload 5, 2) := by decide +kernel
theorem d_X12_isFitting_198 : decode cX12_isFitting 198 = .ok (.iaload, 1) := by decide +kernel
theorem d_X12_isFitting_199 : decode cX12_isFitting 199 = .ok (.iadd, 1) := by decide +kernel
theorem d_X12_isFitting_200 : decode cX12_isFitting 200 = .ok (.iaload, 1) := by decide +kernel
theorem d_X12_isFitting_201 : decode cX12_isFitting 201 = .ok (.aload_n 0, 1) := by decide +kernel
theorem d_X12_isFitting_202 : decode cX12_isFitting 202 = .ok (.getfield 7, 3) := by decide +kernel
theorem d_X12_isFitting_205 : decode cX12_isFitting 205 = .ok (.iload_n 2, 1) := by decide +kernel
theorem d_X12_isFitting_206 : decode cX12_isFitting 206 = .ok (.bipush 24, 2) := by decide +kernel
theorem d_X12_isFitting_208 : decode cX12_isFitting 208 = .ok (.iadd, 1) := by decide +kernel
theorem d_X12_isFitting_209 : decode cX12_isFitting 209 = .ok (.bipush 6, 2) := by decide +kernel
theorem d_X12_isFitting_211 : decode cX12_isFitting 211 = .ok (.iload_n 3, 1) := by decide +kernel
theorem d_X12_isFitting_212 : decode cX12_isFitting 212 = .ok (.imul, 1) := by decide +kernel
theorem d_X12_isFitting_213 : decode cX12_isFitting 213 = .ok (.iadd, 1) := by decide +kernel
theorem d_X12_isFitting_214 : decode cX12_isFitting 214 = .ok (.iload 5, 2) := by decide +kernel
theorem d_X12_isFitting_216 : decode cX12_isFitting 216 = .ok (.iadd, 1) := by decide +kernel
theorem d_X12_isFitting_217 : decode cX12_isFitting 217 = .ok (.iaload, 1) := by decide +kernel
theorem d_X12_isFitting_218 : decode cX12_isFitting 218 = .ok (.invokevirtual 290, 3) := by decide +kernel
theorem d_X12_isFitting_221 : decode cX12_isFitting 221 = .ok (.ifCond .eq 7, 3) := by decide +kernel
theorem d_X12_isFitting_224 : decode cX12_isFitting 224 = .ok (.iconst 1, 1) := by decide +kernel
theorem d_X12_isFitting_225 : decode cX12_isFitting 225 = .ok (.goto 4, 3) := by decide +kernel
theorem d_X12_isFitting_228 : decode cX12_isFitting 228 = .ok (.iconst 0, 1) := by decide +kernel
theorem d_X12_isFitting_229 : decode cX12_isFitting 229 = .ok (.istore 4, 2) := by decide +kernel
theorem d_X12_isFitting_231 : decode cX12_isFitting 231 = .ok (.iload 4, 2) := by decide +kernel
theorem d_X12_isFitting_233 : decode cX12_isFitting 233 = .ok (.ifCond .eq 58, 3) := by decide +kernel
theorem d_X12_isFitting_236 : decode cX12_isFitting 236 = .ok (.aload_n 0, 1) := by decide +kernel
theorem d_X12_isFitting_237 : decode cX12_isFitting 237 = .ok (.aload_n 0, 1) := by decide +kernel
theorem d_X12_isFitting_238 : decode cX12_isFitting 238 = .ok (.getfield 7, 3) := by decide +kernel
theorem d_X12_isFitting_241 : decode cX12_isFitting 241 = .ok (.iload_n 1, 1) := by decide +kernel
theorem d_X12_isFitting_242 : decode cX12_isFitting 242 = .ok (.bipush 24, 2) := by decide +kernel
theorem d_X12_isFitting_244 : decode cX12_isFitting 244 = .ok (.iadd, 1) := by decide +kernel
theorem d_X12_isFitting_245 : decode cX12_isFitting 245 = .ok (.bipush 6, 2) := by decide +kernel
theorem d_X12_isFitting_247 : decode cX12_isFitting 247 = .ok (.aload_n 0, 1) := by decide +kernel
theorem d_X12_isFitting_248 : decode cX12_isFitting 248 = .ok (.getfield 47, 3) := by decide +kernel
theorem d_X12_isFitting_251 : decode cX12_isFitting 251 = .ok (.iload 5, 2) := by decide +kernel
theorem d_X12_isFitting_253 : decode cX12_isFitting 253 = .ok (.iaload, 1) := by decide +kernel
theorem d_X12_isFitting_254 : decode cX12_isFitting 254 = .ok (.imul, 1) := by decide +kernel
theorem d_X12_isFitting_255 : decode cX12_isFitting 255 = .ok (.iadd, 1) := by decide +kernel
theorem d_X12_isFitting_256 : decode cX12_isFitting 256 = .ok (.aload_n 0, 1) := by decide +kernel
theorem d_X12_isFitting_257 : decode cX12_isFitting 257 = .ok (.getfield 47, 3) := by decide +kernel
theorem d_X12_isFitting_260 : decode cX12_isFitting 260 = .ok (.iload_n 3, 1) := by decide +kernel
theorem d_X12_isFitting_261 : decode cX12_isFitting 261 = .ok (.iaload, 1) := by decide +kernel
theorem d_X12_isFitting_262 : decode cX12_isFitting 262 = .ok (.iadd, 1) := by decide +kernel
theorem d_X12_isFitting_263 : decode cX12_isFitting 263 = .ok (.iaload, 1) := by decide +kernel
theorem d_X12_isFitting_264 : decode cX12_isFitting 264 = .ok (.aload_n 0, 1) := by decide +kernel
theorem d_X12_isFitting_265 : decode cX12_isFitting 265 = .ok (.getfield 7, 3) := by decide +kernel
theorem d_X12_isFitting_268 : decode cX12_isFitting 268 = .ok (.iload_n 2, 1) := by decide +kernel
theorem d_X12_isFitting_269 : decode cX12_isFitting 269 = .ok (.bipush 24, 2) := by decide +kernel
theorem d_X12_isFitting_271 : decode cX12_isFitting 271 = .ok (.iadd, 1) := by decide +kernel
theorem d_X12_isFitting_272 : decode cX12_isFitting 272 = .ok (.bipush 6, 2) := by decide +kernel
theorem d_X12_isFitting_274 : decode cX12_isFitting 274 = .ok (.iload 5, 2) := by decide +kernel
theorem d_X12_isFitting_276 : decode cX12_isFitting 276 = .ok (.imul, 1) := by decide +kernel
theorem d_X12_isFitting_277 : decode cX12_isFitting 277 = .ok (.iadd, 1) := by decide +kernel
theorem d_X12_isFitting_278 : decode cX12_isFitting 278 = .ok (.iload_n 3, 1) := by decide +kernel
theorem d_X12_isFitting_279 : decode cX12_isFitting 279 = .ok (.iadd, 1) := by decide +kernel
theorem d_X12_isFitting_280 : decode cX12_isFitting 280 = .ok (.iaload, 1) := by decide +kernel
theorem d_X12_isFitting_281 : decode cX12_isFitting 281 = .ok (.invokevirtual 290, 3) := by decide +kernel
theorem d_X12_isFitting_284 : decode cX12_isFitting 284 = .ok (.ifCond .eq 7, 3) := by decide +kernel
theorem d_X12_isFitting_287 : decode cX12_isFitting 287 = .ok (.iconst 1, 1) := by decide +kernel
theorem d_X12_isFitting_288 : decode cX12_isFitting 288 = .ok (.goto 4, 3) := by decide +kernel
theorem d_X12_isFitting_291 : decode cX12_isFitting 291 = .ok (.iconst 0, 1) := by decide +kernel
theorem d_X12_isFitting_292 : decode cX12_isFitting 292 = .ok (.istore 4, 2) := by decide +kernel
theorem d_X12_isFitting_294 : decode cX12_isFitting 294 = .ok (.iinc 5 1, 3) := by decide +kernel
theorem d_X12_isFitting_297 : decode cX12_isFitting 297 = .ok (.goto (-186), 3) := by decide +kernel
theorem d_X12_isFitting_300 : decode cX12_isFitting 300 = .ok (.iload 4, 2) := by decide +kernel
theorem d_X12_isFitting_302 : decode cX12_isFitting 302 = .ok (.ireturn, 1) := by decide +kernel
theorem b_X12_isFitting_0 {X : cX} {d : Nat} {μ : mM} {K : Option Value → mM → Prop} {r0 : Nat} {i1 : Nat} {i2 : Nat} {i3 : Nat} {j0 : Nat} (hw12_r0 : WF12 μ r0) (hb : (i2 + i3) < 366) (h : (iv μ (r0 + 1) (i2 + i3)) = 0 → G X (Rm (d + 1)) mX12_isFitting 28 [(0, .ref r0), (1, .int (nI i1)), (2, .int (nI i2)), (3, .int (nI i3))] [] μ 0 0 K) (hb_2 : ¬ (iv μ (r0 + 1) (i2 + i3)) = 0 → i3 < 7) (hi_j0 : ¬ (iv μ (r0 + 1) (i2 + i3)) = 0 → (nI i1) + (iv μ (r0 + 13) i3) = nI j0) (hb_3 : ¬ (iv μ (r0 + 1) (i2 + i3)) = 0 → j0 < 366) (h_2 : ¬ (iv μ (r0 + 1) (i2 + i3)) = 0 → ¬ (iv μ (r0 + 1) j0) = (1 : Int32) → G X (Rm (d + 1)) mX12_isFitting 33 [(0, .ref r0), (1, .int (nI i1)), (2, .int (nI i2)), (3, .int (nI i3))] [.int 0] μ 0 0 K) (h_3 : ¬ (iv μ (r0 + 1) (i2 + i3)) = 0 → (iv μ (r0 + 1) j0) = (1 : Int32) → G X (Rm (d + 1)) mX12_isFitting 28 [(0, .ref r0), (1, .int (nI i1)), (2, .int (nI i2)), (3, .int (nI i3))] [] μ 0 0 K) : G X (Rm (d + 1)) mX12_isFitting 0 [(0, .ref r0), (1, .int (nI i1)), (2, .int (nI i2)), (3, .int (nI i3))] [] μ 0 0 K := by
  refine G_aload_n d_X12_isFitting_0 rfl 0 rfl ?_
  refine G_getR (r := r0 + 1) 12 0 (w12_kd hw12_r0) (w12_f0 hw12_r0) cok12 (by decide) rfl fl_X12_7 d_X12_isFitting_1 ?_
  refine G_iload_n d_X12_isFitting_4 rfl 2 rfl ?_
  refine G_iload_n d_X12_isFitting_5 rfl 3 rfl ?_
  refine G_iadd d_X12_isFitting_6 ?_
  refine G_iald (i2 + i3) (w12_k0 hw12_r0) (nadd rfl rfl) hb d_X12_isFitting_7 ?_
  refine G_if_eq (tgt := 28) d_X12_isFitting_8 rfl (fun c0 => ?_) (fun c0 => ?_)
  ·
    exact (h c0)
  ·
    refine G_aload_n d_X12_isFitting_11 rfl 0 rfl ?_
    refine G_getR (r := r0 + 1) 12 0 (w12_kd hw12_r0) (w12_f0 hw12_r0) cok12 (by decide) rfl fl_X12_7 d_X12_isFitting_12 ?_
    refine G_iload_n d_X12_isFitting_15 rfl 1 rfl ?_
    refine G_aload_n d_X12_isFitting_16 rfl 0 rfl ?_
    refine G_getR (r := r0 + 13) 12 24 (w12_kd hw12_r0) (w12_f24 hw12_r0) cok12 (by decide) rfl fl_X12_47 d_X12_isFitting_17 ?_
    refine G_iload_n d_X12_isFitting_20 rfl 3 rfl ?_
    refine G_iald i3 (w12_k24 hw12_r0) rfl (hb_2 c0) d_X12_isFitting_21 ?_
    refine G_iadd d_X12_isFitting_22 ?_
    refine G_iald j0 (w12_k0 hw12_r0) (hi_j0 c0) (hb_3 c0) d_X12_isFitting_23 ?_
    refine G_iconst d_X12_isFitting_24 ic_1 ?_
    refine G_icmp_ne (tgt := 32) d_X12_isFitting_25 rfl (fun c1 => ?_) (fun c1 => ?_)
    ·
      refine G_iconst d_X12_isFitting_32 ic_0 ?_
      exact (h_2 c0 c1)
    ·
      exact (h_3 c0 c1)
theorem b_X12_isFitting_28 {X : cX} {d : Nat} {μ : mM} {K : Option Value → mM → Prop} {r0 : Nat} {l1 : Int32} {l2 : Int32} {l3 : Int32} (h : G X (Rm (d + 1)) mX12_isFitting 33 [(0, .ref r0), (1, .int l1), (2, .int l2), (3, .int l3)] [.int 1] μ 0 0 K) : G X (Rm (d + 1)) mX12_isFitting 28 [(0, .ref r0), (1, .int l1), (2, .int l2), (3, .int l3)] [] μ 0 0 K := by
  refine G_iconst d_X12_isFitting_28 ic_1 ?_
  refine G_goto (tgt := 33) d_X12_isFitting_29 rfl ?_
  exact h
theorem b_X12_isFitting_33 {X : cX} {d : Nat} {μ : mM} {K : Option Value → mM → Prop} {r0 : Nat} {l1 : Int32} {l2 : Int32} {l3 : Int32} {v0 : Int32} (h : G X (Rm (d + 1)) mX12_isFitting 38 [(0, .ref r0), (1, .int l1), (2, .int l2), (3, .int l3), (4, .int v0), (5, .int (nI 0))] [] μ 0 0 K) : G X (Rm (d + 1)) mX12_isFitting 33 [(0, .ref r0), (1, .int l1), (2, .int l2), (3, .int l3)] [.int v0] μ 0 0 K := by
  refine G_istore (L' := [(4, .int v0), (0, .ref r0), (1, .int l1), (2, .int l2), (3, .int l3)]) d_X12_isFitting_33 (by decide) rfl ?_
  refine G_iconst d_X12_isFitting_35 ic_0 ?_
  refine G_istore (L' := [(5, .int (nI 0)), (4, .int v0), (0, .ref r0), (1, .int l1), (2, .int l2), (3, .int l3)]) d_X12_isFitting_36 (by decide) rfl ?_
  refine G_sub (L' := [(0, .ref r0), (1, .int l1), (2, .int l2), (3, .int l3), (4, .int v0), (5, .int (nI 0))]) [2, 3, 4, 5, 1, 0] rfl ?_
  exact h
theorem b_X12_isFitting_38 {X : cX} {d : Nat} {μ : mM} {K : Option Value → mM → Prop} {r0 : Nat} {i1 : Nat} {i2 : Nat} {i3 : Nat} {l4 : Int32} {i5 : Nat} {j0 : Nat} (h : (3 : Int32) ≤ (nI i5) → G X (Rm (d + 1)) mX12_isFitting 111 [(0, .ref r0), (1, .int (nI i1)), (2, .int (nI i2)), (3, .int (nI i3)), (4, .int l4), (5, .int (nI 0))] [] μ 0 0 K) (h_2 : ¬ (3 : Int32) ≤ (nI i5) → l4 = 0 → G X (Rm (d + 1)) mX12_isFitting 99 [(0, .ref r0), (1, .int (nI i1)), (2, .int (nI i2)), (3, .int (nI i3)), (5, .int (nI i5))] [] μ 0 0 K) (hw12_r0 : WF12 μ r0) (hb : ¬ (3 : Int32) ≤ (nI i5) → ¬ l4 = 0 → i3 < 7) (hi_j0 : ¬ (3 : Int32) ≤ (nI i5) → ¬ l4 = 0 → (((nI i1) + 6) + ((6 : Int32) * (nI i5))) + (iv μ (r0 + 13) i3) = nI j0) (hb_2 : ¬ (3 : Int32) ≤ (nI i5) → ¬ l4 = 0 → j0 < 366) (hb_3 : ¬ (3 : Int32) ≤ (nI i5) → ¬ l4 = 0 → (((i2 + 6) + (6 * i5)) + i3) < 366) (h_3 : ¬ (3 : Int32) ≤ (nI i5) → ¬ l4 = 0 → (e_X12_isLike μ r0 (iv μ (r0 + 1) j0) (iv μ (r0 + 1) (((i2 + 6) + (6 * i5)) + i3))) = 0 → G X (Rm (d + 1)) mX12_isFitting 99 [(0, .ref r0), (1, .int (nI i1)), (2, .int (nI i2)), (3, .int (nI i3)), (5, .int (nI i5))] [] μ 0 0 K) (h_4 : ¬ (3 : Int32) ≤ (nI i5) → ¬ l4 = 0 → ¬ (e_X12_isLike μ r0 (iv μ (r0 + 1) j0) (iv μ (r0 + 1) (((i2 + 6) + (6 * i5)) + i3))) = 0 → G X (Rm (d + 1)) mX12_isFitting 100 [(0, .ref r0), (1, .int (nI i1)), (2, .int (nI i2)), (3, .int (nI i3)), (5, .int (nI i5))] [.int 1] μ 0 0 K) : G X (Rm (d + 1)) mX12_isFitting 38 [(0, .ref r0), (1, .int (nI i1)), (2, .int (nI i2)), (3, .int (nI i3)), (4, .int l4), (5, .int (nI i5))] [] μ 0 0 K := by
  refine G_iload d_X12_isFitting_38 5 rfl ?_
  refine G_iconst d_X12_isFitting_40 ic_3 ?_
  refine G_icmp_ge (tgt := 108) d_X12_isFitting_41 rfl (fun c0 => ?_) (fun c0 => ?_)
  ·
    refine G_iconst d_X12_isFitting_108 ic_0 ?_
    refine G_istore (L' := [(5, .int (nI 0)), (0, .ref r0), (1, .int (nI i1)), (2, .int (nI i2)), (3, .int (nI i3)), (4, .int l4)]) d_X12_isFitting_109 (by decide) rfl ?_
    refine G_sub (L' := [(0, .ref r0), (1, .int (nI i1)), (2, .int (nI i2)), (3, .int (nI i3)), (4, .int l4), (5, .int (nI 0))]) [1, 2, 3, 4, 5, 0] rfl ?_
    exact (h c0)
  ·
    refine G_iload d_X12_isFitting_44 4 rfl ?_
    refine G_if_eq (tgt := 99) d_X12_isFitting_46 rfl (fun c1 => ?_) (fun c1 => ?_)
    ·
      refine G_sub (L' := [(0, .ref r0), (1, .int (nI i1)), (2, .int (nI i2)), (3, .int (nI i3)), (5, .int (nI i5))]) [0, 1, 2, 3, 5] rfl ?_
      exact (h_2 c0 c1)
    ·
      refine G_aload_n d_X12_isFitting_49 rfl 0 rfl ?_
      refine G_aload_n d_X12_isFitting_50 rfl 0 rfl ?_
      refine G_getR (r := r0 + 1) 12 0 (w12_kd hw12_r0) (w12_f0 hw12_r0) cok12 (by decide) rfl fl_X12_7 d_X12_isFitting_51 ?_
      refine G_iload_n d_X12_isFitting_54 rfl 1 rfl ?_
      refine G_bipush d_X12_isFitting_55 bp_6 ?_
      refine G_iadd d_X12_isFitting_57 ?_
      refine G_bipush d_X12_isFitting_58 bp_6 ?_
      refine G_iload d_X12_isFitting_60 5 rfl ?_
      refine G_imul d_X12_isFitting_62 ?_
      refine G_iadd d_X12_isFitting_63 ?_
      refine G_aload_n d_X12_isFitting_64 rfl 0 rfl ?_
      refine G_getR (r := r0 + 13) 12 24 (w12_kd hw12_r0) (w12_f24 hw12_r0) cok12 (by decide) rfl fl_X12_47 d_X12_isFitting_65 ?_
      refine G_iload_n d_X12_isFitting_68 rfl 3 rfl ?_
      refine G_iald i3 (w12_k24 hw12_r0) rfl (hb c0 c1) d_X12_isFitting_69 ?_
      refine G_iadd d_X12_isFitting_70 ?_
      refine G_iald j0 (w12_k0 hw12_r0) (hi_j0 c0 c1) (hb_2 c0 c1) d_X12_isFitting_71 ?_
      refine G_aload_n d_X12_isFitting_72 rfl 0 rfl ?_
      refine G_getR (r := r0 + 1) 12 0 (w12_kd hw12_r0) (w12_f0 hw12_r0) cok12 (by decide) rfl fl_X12_7 d_X12_isFitting_73 ?_
      refine G_iload_n d_X12_isFitting_76 rfl 2 rfl ?_
      refine G_bipush d_X12_isFitting_77 bp_6 ?_
      refine G_iadd d_X12_isFitting_79 ?_
      refine G_bipush d_X12_isFitting_80 bp_6 ?_
      refine G_iload d_X12_isFitting_82 5 rfl ?_
      refine G_imul d_X12_isFitting_84 ?_
      refine G_iadd d_X12_isFitting_85 ?_
      refine G_iload_n d_X12_isFitting_86 rfl 3 rfl ?_
      refine G_iadd d_X12_isFitting_87 ?_
      refine G_iald (((i2 + 6) + (6 * i5)) + i3) (w12_k0 hw12_r0) (nadd (nadd (nadd rfl rfl) (nmul rfl rfl)) rfl) (hb_3 c0 c1) d_X12_isFitting_88 ?_
      refine G_callV (M' := mX12_isLike) (R' := (Rm d)) (S := []) [.int (iv μ (r0 + 1) j0), .int (iv μ (r0 + 1) (((i2 + 6) + (6 * i5)) + i3))] 12 (w12_kd hw12_r0) cok12 rfl ok_X12_isLike ml_X12_290 pn_X12_isLike (ru_Rm (by decide)) (Nat.le_of_ble_eq_true rfl) d_X12_isFitting_89 (s_X12_isLike (μ := μ)   ?_)
      show G X (Rm (d + 1)) mX12_isFitting 92 [(0, .ref r0), (1, .int (nI i1)), (2, .int (nI i2)), (3, .int (nI i3)), (4, .int l4), (5, .int (nI i5))] [.int (e_X12_isLike μ r0 (iv μ (r0 + 1) j0) (iv μ (r0 + 1) (((i2 + 6) + (6 * i5)) + i3)))] μ 0 0 K
      refine G_if_eq (tgt := 99) d_X12_isFitting_92 rfl (fun c2 => ?_) (fun c2 => ?_)
      ·
        refine G_sub (L' := [(0, .ref r0), (1, .int (nI i1)), (2, .int (nI i2)), (3, .int (nI i3)), (5, .int (nI i5))]) [0, 1, 2, 3, 5] rfl ?_
        exact (h_3 c0 c1 c2)
      ·
        refine G_iconst d_X12_isFitting_95 ic_1 ?_
        refine G_goto (tgt := 100) d_X12_isFitting_96 rfl ?_
        refine G_sub (L' := [(0, .ref r0), (1, .int (nI i1)), (2, .int (nI i2)), (3, .int (nI i3)), (5, .int (nI i5))]) [0, 1, 2, 3, 5] rfl ?_
        exact (h_4 c0 c1 c2)
theorem b_X12_isFitting_99 {X : cX} {d : Nat} {μ : mM} {K : Option Value → mM → Prop} {r0 : Nat} {l1 : Int32} {l2 : Int32} {l3 : Int32} {l5 : Int32} (h : G X (Rm (d + 1)) mX12_isFitting 100 [(0, .ref r0), (1, .int l1), (2, .int l2), (3, .int l3), (5, .int l5)] [.int 0] μ 0 0 K) : G X (Rm (d + 1)) mX12_isFitting 99 [(0, .ref r0), (1, .int l1), (2, .int l2), (3, .int l3), (5, .int l5)] [] μ 0 0 K := by
  refine G_iconst d_X12_isFitting_99 ic_0 ?_
  exact h
theorem b_X12_isFitting_100 {X : cX} {d : Nat} {μ : mM} {K : Option Value → mM → Prop} {r0 : Nat} {l1 : Int32} {l2 : Int32} {l3 : Int32} {i5 : Nat} {v0 : Int32} (h : G X (Rm (d + 1)) mX12_isFitting 38 [(0, .ref r0), (1, .int l1), (2, .int l2), (3, .int l3), (4, .int v0), (5, .int (nI (i5 + 1)))] [] μ 0 0 K) : G X (Rm (d + 1)) mX12_isFitting 100 [(0, .ref r0), (1, .int l1), (2, .int l2), (3, .int l3), (5, .int (nI i5))] [.int v0] μ 0 0 K := by
  refine G_istore (L' := [(4, .int v0), (0, .ref r0), (1, .int l1), (2, .int l2), (3, .int l3), (5, .int (nI i5))]) d_X12_isFitting_100 (by decide) rfl ?_
  refine G_iinc (L' := [(5, .int (nI (i5 + 1))), (4, .int v0), (0, .ref r0), (1, .int l1), (2, .int l2), (3, .int l3)]) d_X12_isFitting_102 5 rfl (inc1 i5) (by decide) rfl ?_
  refine G_goto (tgt := 38) d_X12_isFitting_105 rfl ?_
  refine G_sub (L' := [(0, .ref r0), (1, .int l1), (2, .int l2), (3, .int l3), (4, .int v0), (5, .int (nI (i5 + 1)))]) [2, 3, 4, 5, 1, 0] rfl ?_
  exact h
theorem b_X12_isFitting_111 {X : cX} {d : Nat} {μ : mM} {K : Option Value → mM → Prop} {r0 : Nat} {i1 : Nat} {l2 : Int32} {i3 : Nat} {l4 : Int32} {i5 : Nat} {j0 : Nat} (hK : (nI i3) < (nI i5) → K (some (.int l4)) μ) (hz : (nI i3) < (nI i5) → l4 = 0 ∨ l4 = 1) (h : ¬ (nI i3) < (nI i5) → l4 = 0 → G X (Rm (d + 1)) mX12_isFitting 165 [(0, .ref r0), (1, .int (nI i1)), (2, .int l2), (3, .int (nI i3)), (5, .int (nI i5))] [] μ 0 0 K) (h_2 : ¬ (nI i3) < (nI i5) → ¬ l4 = 0 → (nI i5) = (nI i3) → G X (Rm (d + 1)) mX12_isFitting 161 [(0, .ref r0), (1, .int (nI i1)), (2, .int l2), (3, .int (nI i3)), (5, .int (nI i5))] [] μ 0 0 K) (hw12_r0 : WF12 μ r0) (hb : ¬ (nI i3) < (nI i5) → ¬ l4 = 0 → ¬ (nI i5) = (nI i3) → i5 < 7) (hb_2 : ¬ (nI i3) < (nI i5) → ¬ l4 = 0 → ¬ (nI i5) = (nI i3) → i3 < 7) (h_3 : ¬ (nI i3) < (nI i5) → ¬ l4 = 0 → ¬ (nI i5) = (nI i3) → ¬ (iv μ (r0 + 13) i5) = (iv μ (r0 + 13) i3) → G X (Rm (d + 1)) mX12_isFitting 161 [(0, .ref r0), (1, .int (nI i1)), (2, .int l2), (3, .int (nI i3)), (5, .int (nI i5))] [] μ 0 0 K) (hb_3 : ¬ (nI i3) < (nI i5) → ¬ l4 = 0 → ¬ (nI i5) = (nI i3) → (iv μ (r0 + 13) i5) = (iv μ (r0 + 13) i3) → i3 < 7) (hi_j0 : ¬ (nI i3) < (nI i5) → ¬ l4 = 0 → ¬ (nI i5) = (nI i3) → (iv μ (r0 + 13) i5) = (iv μ (r0 + 13) i3) → (nI i1) + (iv μ (r0 + 13) i3) = nI j0) (hb_4 : ¬ (nI i3) < (nI i5) → ¬ l4 = 0 → ¬ (nI i5) = (nI i3) → (iv μ (r0 + 13) i5) = (iv μ (r0 + 13) i3) → j0 < 366) (h_4 : ¬ (nI i3) < (nI i5) → ¬ l4 = 0 → ¬ (nI i5) = (nI i3) → (iv μ (r0 + 13) i5) = (iv μ (r0 + 13) i3) → ¬ (iv μ (r0 + 1) j0) = (1 : Int32) → G X (Rm (d + 1)) mX12_isFitting 165 [(0, .ref r0), (1, .int (nI i1)), (2, .int l2), (3, .int (nI i3)), (5, .int (nI i5))] [] μ 0 0 K) (h_5 : ¬ (nI i3) < (nI i5) → ¬ l4 = 0 → ¬ (nI i5) = (nI i3) → (iv μ (r0 + 13) i5) = (iv μ (r0 + 13) i3) → (iv μ (r0 + 1) j0) = (1 : Int32) → G X (Rm (d + 1)) mX12_isFitting 161 [(0, .ref r0), (1, .int (nI i1)), (2, .int l2), (3, .int (nI i3)), (5, .int (nI i5))] [] μ 0 0 K) : G X (Rm (d + 1)) mX12_isFitting 111 [(0, .ref r0), (1, .int (nI i1)), (2, .int l2), (3, .int (nI i3)), (4, .int l4), (5, .int (nI i5))] [] μ 0 0 K := by
  refine G_iload d_X12_isFitting_111 5 rfl ?_
  refine G_iload_n d_X12_isFitting_113 rfl 3 rfl ?_
  refine G_icmp_gt (tgt := 300) d_X12_isFitting_114 rfl (fun c0 => ?_) (fun c0 => ?_)
  ·
    refine G_iload d_X12_isFitting_300 4 rfl ?_
    exact G_zret rfl (nar_b (hz c0)) rfl rfl d_X12_isFitting_302 (hK c0)
  ·
    refine G_iload d_X12_isFitting_117 4 rfl ?_
    refine G_if_eq (tgt := 165) d_X12_isFitting_119 rfl (fun c1 => ?_) (fun c1 => ?_)
    ·
      refine G_sub (L' := [(0, .ref r0), (1, .int (nI i1)), (2, .int l2), (3, .int (nI i3)), (5, .int (nI i5))]) [0, 1, 2, 3, 5] rfl ?_
      exact (h c0 c1)
    ·
      refine G_iload d_X12_isFitting_122 5 rfl ?_
      refine G_iload_n d_X12_isFitting_124 rfl 3 rfl ?_
      refine G_icmp_eq (tgt := 161) d_X12_isFitting_125 rfl (fun c2 => ?_) (fun c2 => ?_)
      ·
        refine G_sub (L' := [(0, .ref r0), (1, .int (nI i1)), (2, .int l2), (3, .int (nI i3)), (5, .int (nI i5))]) [0, 1, 2, 3, 5] rfl ?_
        exact (h_2 c0 c1 c2)
      ·
        refine G_aload_n d_X12_isFitting_128 rfl 0 rfl ?_
        refine G_getR (r := r0 + 13) 12 24 (w12_kd hw12_r0) (w12_f24 hw12_r0) cok12 (by decide) rfl fl_X12_47 d_X12_isFitting_129 ?_
        refine G_iload d_X12_isFitting_132 5 rfl ?_
        refine G_iald i5 (w12_k24 hw12_r0) rfl (hb c0 c1 c2) d_X12_isFitting_134 ?_
        refine G_aload_n d_X12_isFitting_135 rfl 0 rfl ?_
        refine G_getR (r := r0 + 13) 12 24 (w12_kd hw12_r0) (w12_f24 hw12_r0) cok12 (by decide) rfl fl_X12_47 d_X12_isFitting_136 ?_
        refine G_iload_n d_X12_isFitting_139 rfl 3 rfl ?_
        refine G_iald i3 (w12_k24 hw12_r0) rfl (hb_2 c0 c1 c2) d_X12_isFitting_140 ?_
        refine G_icmp_ne (tgt := 161) d_X12_isFitting_141 rfl (fun c3 => ?_) (fun c3 => ?_)
        ·
          refine G_sub (L' := [(0, .ref r0), (1, .int (nI i1)), (2, .int l2), (3, .int (nI i3)), (5, .int (nI i5))]) [0, 1, 2, 3, 5] rfl ?_
          exact (h_3 c0 c1 c2 c3)
        ·
          refine G_aload_n d_X12_isFitting_144 rfl 0 rfl ?_
          refine G_getR (r := r0 + 1) 12 0 (w12_kd hw12_r0) (w12_f0 hw12_r0) cok12 (by decide) rfl fl_X12_7 d_X12_isFitting_145 ?_
          refine G_iload_n d_X12_isFitting_148 rfl 1 rfl ?_
          refine G_aload_n d_X12_isFitting_149 rfl 0 rfl ?_
          refine G_getR (r := r0 + 13) 12 24 (w12_kd hw12_r0) (w12_f24 hw12_r0) cok12 (by decide) rfl fl_X12_47 d_X12_isFitting_150 ?_
          refine G_iload_n d_X12_isFitting_153 rfl 3 rfl ?_
          refine G_iald i3 (w12_k24 hw12_r0) rfl (hb_3 c0 c1 c2 c3) d_X12_isFitting_154 ?_
          refine G_iadd d_X12_isFitting_155 ?_
          refine G_iald j0 (w12_k0 hw12_r0) (hi_j0 c0 c1 c2 c3) (hb_4 c0 c1 c2 c3) d_X12_isFitting_156 ?_
          refine G_iconst d_X12_isFitting_157 ic_1 ?_
          refine G_icmp_ne (tgt := 165) d_X12_isFitting_158 rfl (fun c4 => ?_) (fun c4 => ?_)
          ·
            refine G_sub (L' := [(0, .ref r0), (1, .int (nI i1)), (2, .int l2), (3, .int (nI i3)), (5, .int (nI i5))]) [0, 1, 2, 3, 5] rfl ?_
            exact (h_4 c0 c1 c2 c3 c4)
          ·
            refine G_sub (L' := [(0, .ref r0), (1, .int (nI i1)), (2, .int l2), (3, .int (nI i3)), (5, .int (nI i5))]) [0, 1, 2, 3, 5] rfl ?_
            exact (h_5 c0 c1 c2 c3 c4)
theorem b_X12_isFitting_161 {X : cX} {d : Nat} {μ : mM} {K : Option Value → mM → Prop} {r0 : Nat} {l1 : Int32} {l2 : Int32} {l3 : Int32} {l5 : Int32} (h : G X (Rm (d + 1)) mX12_isFitting 166 [(0, .ref r0), (1, .int l1), (2, .int l2), (3, .int l3), (5, .int l5)] [.int 1] μ 0 0 K) : G X (Rm (d + 1)) mX12_isFitting 161 [(0, .ref r0), (1, .int l1), (2, .int l2), (3, .int l3), (5, .int l5)] [] μ 0 0 K := by
  refine G_iconst d_X12_isFitting_161 ic_1 ?_
  refine G_goto (tgt := 166) d_X12_isFitting_162 rfl ?_
  exact h
theorem b_X12_isFitting_165 {X : cX} {d : Nat} {μ : mM} {K : Option Value → mM → Prop} {r0 : Nat} {l1 : Int32} {l2 : Int32} {l3 : Int32} {l5 : Int32} (h : G X (Rm (d + 1)) mX12_isFitting 166 [(0, .ref r0), (1, .int l1), (2, .int l2), (3, .int l3), (5, .int l5)] [.int 0] μ 0 0 K) : G X (Rm (d + 1)) mX12_isFitting 165 [(0, .ref r0), (1, .int l1), (2, .int l2), (3, .int l3), (5, .int l5)] [] μ 0 0 K := by
  refine G_iconst d_X12_isFitting_165 ic_0 ?_
  exact h
theorem b_X12_isFitting_166 {X : cX} {d : Nat} {μ : mM} {K : Option Value → mM → Prop} {r0 : Nat} {i1 : Nat} {i2 : Nat} {i3 : Nat} {i5 : Nat} {v0 : Int32} {j0 : Nat} (h : v0 = 0 → G X (Rm (d + 1)) mX12_isFitting 228 [(0, .ref r0), (1, .int (nI i1)), (2, .int (nI i2)), (3, .int (nI i3)), (5, .int (nI i5))] [] μ 0 0 K) (hw12_r0 : WF12 μ r0) (hb : ¬ v0 = 0 → i3 < 7) (hb_2 : ¬ v0 = 0 → i5 < 7) (hi_j0 : ¬ v0 = 0 → (((nI i1) + 24) + ((6 : Int32) * (iv μ (r0 + 13) i3))) + (iv μ (r0 + 13) i5) = nI j0) (hb_3 : ¬ v0 = 0 → j0 < 366) (hb_4 : ¬ v0 = 0 → (((i2 + 24) + (6 * i3)) + i5) < 366) (h_2 : ¬ v0 = 0 → (e_X12_isLike μ r0 (iv μ (r0 + 1) j0) (iv μ (r0 + 1) (((i2 + 24) + (6 * i3)) + i5))) = 0 → G X (Rm (d + 1)) mX12_isFitting 228 [(0, .ref r0), (1, .int (nI i1)), (2, .int (nI i2)), (3, .int (nI i3)), (5, .int (nI i5))] [] μ 0 0 K) (h_3 : ¬ v0 = 0 → ¬ (e_X12_isLike μ r0 (iv μ (r0 + 1) j0) (iv μ (r0 + 1) (((i2 + 24) + (6 * i3)) + i5))) = 0 → G X (Rm (d + 1)) mX12_isFitting 229 [(0, .ref r0), (1, .int (nI i1)), (2, .int (nI i2)), (3, .int (nI i3)), (5, .int (nI i5))] [.int 1] μ 0 0 K) : G X (Rm (d + 1)) mX12_isFitting 166 [(0, .ref r0), (1, .int (nI i1)), (2, .int (nI i2)), (3, .int (nI i3)), (5, .int (nI i5))] [.int v0] μ 0 0 K := by
  refine G_istore (L' := [(4, .int v0), (0, .ref r0), (1, .int (nI i1)), (2, .int (nI i2)), (3, .int (nI i3)), (5, .int (nI i5))]) d_X12_isFitting_166 (by decide) rfl ?_
  refine G_iload d_X12_isFitting_168 0 rfl ?_
  refine G_if_eq (tgt := 228) d_X12_isFitting_170 rfl (fun c0 => ?_) (fun c0 => ?_)
  ·
    refine G_sub (L' := [(0, .ref r0), (1, .int (nI i1)), (2, .int (nI i2)), (3, .int (nI i3)), (5, .int (nI i5))]) [1, 2, 3, 4, 5] rfl ?_
    exact (h c0)
  ·
    refine G_aload_n d_X12_isFitting_173 rfl 1 rfl ?_
    refine G_aload_n d_X12_isFitting_174 rfl 1 rfl ?_
    refine G_getR (r := r0 + 1) 12 0 (w12_kd hw12_r0) (w12_f0 hw12_r0) cok12 (by decide) rfl fl_X12_7 d_X12_isFitting_175 ?_
    refine G_iload_n d_X12_isFitting_178 rfl 2 rfl ?_
    refine G_bipush d_X12_isFitting_179 bp_24 ?_
    refine G_iadd d_X12_isFitting_181 ?_
    refine G_bipush d_X12_isFitting_182 bp_6 ?_
    refine G_aload_n d_X12_isFitting_184 rfl 1 rfl ?_
    refine G_getR (r := r0 + 13) 12 24 (w12_kd hw12_r0) (w12_f24 hw12_r0) cok12 (by decide) rfl fl_X12_47 d_X12_isFitting_185 ?_
    refine G_iload_n d_X12_isFitting_188 rfl 4 rfl ?_
    refine G_iald i3 (w12_k24 hw12_r0) rfl (hb c0) d_X12_isFitting_189 ?_
    refine G_imul d_X12_isFitting_190 ?_
    refine G_iadd d_X12_isFitting_191 ?_
    refine G_aload_n d_X12_isFitting_192 rfl 1 rfl ?_
    refine G_getR (r := r0 + 13) 12 24 (w12_kd hw12_r0) (w12_f24 hw12_r0) cok12 (by decide) rfl fl_X12_47 d_X12_isFitting_193 ?_
    refine G_iload d_X12_isFitting_196 5 rfl ?_
    refine G_iald i5 (w12_k24 hw12_r0) rfl (hb_2 c0) d_X12_isFitting_198 ?_
    refine G_iadd d_X12_isFitting_199 ?_
    refine G_iald j0 (w12_k0 hw12_r0) (hi_j0 c0) (hb_3 c0) d_X12_isFitting_200 ?_
    refine G_aload_n d_X12_isFitting_201 rfl 1 rfl ?_
    refine G_getR (r := r0 + 1) 12 0 (w12_kd hw12_r0) (w12_f0 hw12_r0) cok12 (by decide) rfl fl_X12_7 d_X12_isFitting_202 ?_
    refine G_iload_n d_X12_isFitting_205 rfl 3 rfl ?_
    refine G_bipush d_X12_isFitting_206 bp_24 ?_
    refine G_iadd d_X12_isFitting_208 ?_
    refine G_bipush d_X12_isFitting_209 bp_6 ?_
    refine G_iload_n d_X12_isFitting_211 rfl 4 rfl ?_
    refine G_imul d_X12_isFitting_212 ?_
    refine G_iadd d_X12_isFitting_213 ?_
    refine G_iload d_X12_isFitting_214 5 rfl ?_
    refine G_iadd d_X12_isFitting_216 ?_
    refine G_iald (((i2 + 24) + (6 * i3)) + i5) (w12_k0 hw12_r0) (nadd (nadd (nadd rfl rfl) (nmul rfl rfl)) rfl) (hb_4 c0) d_X12_isFitting_217 ?_
    refine G_callV (M' := mX12_isLike) (R' := (Rm d)) (S := []) [.int (iv μ (r0 + 1) j0), .int (iv μ (r0 + 1) (((i2 + 24) + (6 * i3)) + i5))] 12 (w12_kd hw12_r0) cok12 rfl ok_X12_isLike ml_X12_290 pn_X12_isLike (ru_Rm (by decide)) (Nat.le_of_ble_eq_true rfl) d_X12_isFitting_218 (s_X12_isLike (μ := μ)   ?_)
    show G X (Rm (d + 1)) mX12_isFitting 221 [(4, .int v0), (0, .ref r0), (1, .int (nI i1)), (2, .int (nI i2)), (3, .int (nI i3)), (5, .int (nI i5))] [.int (e_X12_isLike μ r0 (iv μ (r0 + 1) j0) (iv μ (r0 + 1) (((i2 + 24) + (6 * i3)) + i5)))] μ 0 0 K
    refine G_if_eq (tgt := 228) d_X12_isFitting_221 rfl (fun c1 => ?_) (fun c1 => ?_)
    ·
      refine G_sub (L' := [(0, .ref r0), (1, .int (nI i1)), (2, .int (nI i2)), (3, .int (nI i3)), (5, .int (nI i5))]) [1, 2, 3, 4, 5] rfl ?_
      exact (h_2 c0 c1)
    ·
      refine G_iconst d_X12_isFitting_224 ic_1 ?_
      refine G_goto (tgt := 229) d_X12_isFitting_225 rfl ?_
      refine G_sub (L' := [(0, .ref r0), (1, .int (nI i1)), (2, .int (nI i2)), (3, .int (nI i3)), (5, .int (nI i5))]) [1, 2, 3, 4, 5] rfl ?_
      exact (h_3 c0 c1)
theorem b_X12_isFitting_228 {X : cX} {d : Nat} {μ : mM} {K : Option Value → mM → Prop} {r0 : Nat} {l1 : Int32} {l2 : Int32} {l3 : Int32} {l5 : Int32} (h : G X (Rm (d + 1)) mX12_isFitting 229 [(0, .ref r0), (1, .int l1), (2, .int l2), (3, .int l3), (5, .int l5)] [.int 0] μ 0 0 K) : G X (Rm (d + 1)) mX12_isFitting 228 [(0, .ref r0), (1, .int l1), (2, .int l2), (3, .int l3), (5, .int l5)] [] μ 0 0 K := by
  refine G_iconst d_X12_isFitting_228 ic_0 ?_
  exact h
theorem b_X12_isFitting_229 {X : cX} {d : Nat} {μ : mM} {K : Option Value → mM → Prop} {r0 : Nat} {i1 : Nat} {i2 : Nat} {i3 : Nat} {i5 : Nat} {v0 : Int32} {j0 : Nat} (h : v0 = 0 → G X (Rm (d + 1)) mX12_isFitting 291 [(0, .ref r0), (1, .int (nI i1)), (2, .int (nI i2)), (3, .int (nI i3)), (5, .int (nI i5))] [] μ 0 0 K) (hw12_r0 : WF12 μ r0) (hb : ¬ v0 = 0 → i5 < 7) (hb_2 : ¬ v0 = 0 → i3 < 7) (hi_j0 : ¬ v0 = 0 → (((nI i1) + 24) + ((6 : Int32) * (iv μ (r0 + 13) i5))) + (iv μ (r0 + 13) i3) = nI j0) (hb_3 : ¬ v0 = 0 → j0 < 366) (hb_4 : ¬ v0 = 0 → (((i2 + 24) + (6 * i5)) + i3) < 366) (h_2 : ¬ v0 = 0 → (e_X12_isLike μ r0 (iv μ (r0 + 1) j0) (iv μ (r0 + 1) (((i2 + 24) + (6 * i5)) + i3))) = 0 → G X (Rm (d + 1)) mX12_isFitting 291 [(0, .ref r0), (1, .int (nI i1)), (2, .int (nI i2)), (3, .int (nI i3)), (5, .int (nI i5))] [] μ 0 0 K) (h_3 : ¬ v0 = 0 → ¬ (e_X12_isLike μ r0 (iv μ (r0 + 1) j0) (iv μ (r0 + 1) (((i2 + 24) + (6 * i5)) + i3))) = 0 → G X (Rm (d + 1)) mX12_isFitting 292 [(0, .ref r0), (1, .int (nI i1)), (2, .int (nI i2)), (3, .int (nI i3)), (5, .int (nI i5))] [.int 1] μ 0 0 K) : G X (Rm (d + 1)) mX12_isFitting 229 [(0, .ref r0), (1, .int (nI i1)), (2, .int (nI i2)), (3, .int (nI i3)), (5, .int (nI i5))] [.int v0] μ 0 0 K := by
  refine G_istore (L' := [(4, .int v0), (0, .ref r0), (1, .int (nI i1)), (2, .int (nI i2)), (3, .int (nI i3)), (5, .int (nI i5))]) d_X12_isFitting_229 (by decide) rfl ?_
  refine G_iload d_X12_isFitting_231 0 rfl ?_
  refine G_if_eq (tgt := 291) d_X12_isFitting_233 rfl (fun c0 => ?_) (fun c0 => ?_)
  ·
    refine G_sub (L' := [(0, .ref r0), (1, .int (nI i1)), (2, .int (nI i2)), (3, .int (nI i3)), (5, .int (nI i5))]) [1, 2, 3, 4, 5] rfl ?_
    exact (h c0)
  ·
    refine G_aload_n d_X12_isFitting_236 rfl 1 rfl ?_
    refine G_aload_n d_X12_isFitting_237 rfl 1 rfl ?_
    refine G_getR (r := r0 + 1) 12 0 (w12_kd hw12_r0) (w12_f0 hw12_r0) cok12 (by decide) rfl fl_X12_7 d_X12_isFitting_238 ?_
    refine G_iload_n d_X12_isFitting_241 rfl 2 rfl ?_
    refine G_bipush d_X12_isFitting_242 bp_24 ?_
    refine G_iadd d_X12_isFitting_244 ?_
    refine G_bipush d_X12_isFitting_245 bp_6 ?_
    refine G_aload_n d_X12_isFitting_247 rfl 1 rfl ?_
    refine G_getR (r := r0 + 13) 12 24 (w12_kd hw12_r0) (w12_f24 hw12_r0) cok12 (by decide) rfl fl_X12_47 d_X12_isFitting_248 ?_
    refine G_iload d_X12_isFitting_251 5 rfl ?_
    refine G_iald i5 (w12_k24 hw12_r0) rfl (hb c0) d_X12_isFitting_253 ?_
    refine G_imul d_X12_isFitting_254 ?_
    refine G_iadd d_X12_isFitting_255 ?_
    refine G_aload_n d_X12_isFitting_256 rfl 1 rfl ?_
    refine G_getR (r := r0 + 13) 12 24 (w12_kd hw12_r0) (w12_f24 hw12_r0) cok12 (by decide) rfl fl_X12_47 d_X12_isFitting_257 ?_
    refine G_iload_n d_X12_isFitting_260 rfl 4 rfl ?_
    refine G_iald i3 (w12_k24 hw12_r0) rfl (hb_2 c0) d_X12_isFitting_261 ?_
    refine G_iadd d_X12_isFitting_262 ?_
    refine G_iald j0 (w12_k0 hw12_r0) (hi_j0 c0) (hb_3 c0) d_X12_isFitting_263 ?_
    refine G_aload_n d_X12_isFitting_264 rfl 1 rfl ?_
    refine G_getR (r := r0 + 1) 12 0 (w12_kd hw12_r0) (w12_f0 hw12_r0) cok12 (by decide) rfl fl_X12_7 d_X12_isFitting_265 ?_
    refine G_iload_n d_X12_isFitting_268 rfl 3 rfl ?_
    refine G_bipush d_X12_isFitting_269 bp_24 ?_
    refine G_iadd d_X12_isFitting_271 ?_
    refine G_bipush d_X12_isFitting_272 bp_6 ?_
    refine G_iload d_X12_isFitting_274 5 rfl ?_
    refine G_imul d_X12_isFitting_276 ?_
    refine G_iadd d_X12_isFitting_277 ?_
    refine G_iload_n d_X12_isFitting_278 rfl 4 rfl ?_
    refine G_iadd d_X12_isFitting_279 ?_
    refine G_iald (((i2 + 24) + (6 * i5)) + i3) (w12_k0 hw12_r0) (nadd (nadd (nadd rfl rfl) (nmul rfl rfl)) rfl) (hb_4 c0) d_X12_isFitting_280 ?_
    refine G_callV (M' := mX12_isLike) (R' := (Rm d)) (S := []) [.int (iv μ (r0 + 1) j0), .int (iv μ (r0 + 1) (((i2 + 24) + (6 * i5)) + i3))] 12 (w12_kd hw12_r0) cok12 rfl ok_X12_isLike ml_X12_290 pn_X12_isLike (ru_Rm (by decide)) (Nat.le_of_ble_eq_true rfl) d_X12_isFitting_281 (s_X12_isLike (μ := μ)   ?_)
    show G X (Rm (d + 1)) mX12_isFitting 284 [(4, .int v0), (0, .ref r0), (1, .int (nI i1)), (2, .int (nI i2)), (3, .int (nI i3)), (5, .int (nI i5))] [.int (e_X12_isLike μ r0 (iv μ (r0 + 1) j0) (iv μ (r0 + 1) (((i2 + 24) + (6 * i5)) + i3)))] μ 0 0 K
    refine G_if_eq (tgt := 291) d_X12_isFitting_284 rfl (fun c1 => ?_) (fun c1 => ?_)
    ·
      refine G_sub (L' := [(0, .ref r0), (1, .int (nI i1)), (2, .int (nI i2)), (3, .int (nI i3)), (5, .int (nI i5))]) [1, 2, 3, 4, 5] rfl ?_
      exact (h_2 c0 c1)
    ·
      refine G_iconst d_X12_isFitting_287 ic_1 ?_
      refine G_goto (tgt := 292) d_X12_isFitting_288 rfl ?_
      refine G_sub (L' := [(0, .ref r0), (1, .int (nI i1)), (2, .int (nI i2)), (3, .int (nI i3)), (5, .int (nI i5))]) [1, 2, 3, 4, 5] rfl ?_
      exact (h_3 c0 c1)
theorem b_X12_isFitting_291 {X : cX} {d : Nat} {μ : mM} {K : Option Value → mM → Prop} {r0 : Nat} {l1 : Int32} {l2 : Int32} {l3 : Int32} {l5 : Int32} (h : G X (Rm (d + 1)) mX12_isFitting 292 [(0, .ref r0), (1, .int l1), (2, .int l2), (3, .int l3), (5, .int l5)] [.int 0] μ 0 0 K) : G X (Rm (d + 1)) mX12_isFitting 291 [(0, .ref r0), (1, .int l1), (2, .int l2), (3, .int l3), (5, .int l5)] [] μ 0 0 K := by
  refine G_iconst d_X12_isFitting_291 ic_0 ?_
  exact h
theorem b_X12_isFitting_292 {X : cX} {d : Nat} {μ : mM} {K : Option Value → mM → Prop} {r0 : Nat} {l1 : Int32} {l2 : Int32} {l3 : Int32} {i5 : Nat} {v0 : Int32} (h : G X (Rm (d + 1)) mX12_isFitting 111 [(0, .ref r0), (1, .int l1), (2, .int l2), (3, .int l3), (4, .int v0), (5, .int (nI (i5 + 1)))] [] μ 0 0 K) : G X (Rm (d + 1)) mX12_isFitting 292 [(0, .ref r0), (1, .int l1), (2, .int l2), (3, .int l3), (5, .int (nI i5))] [.int v0] μ 0 0 K := by
  refine G_istore (L' := [(4, .int v0), (0, .ref r0), (1, .int l1), (2, .int l2), (3, .int l3), (5, .int (nI i5))]) d_X12_isFitting_292 (by decide) rfl ?_
  refine G_iinc (L' := [(5, .int (nI (i5 + 1))), (4, .int v0), (0, .ref r0), (1, .int l1), (2, .int l2), (3, .int l3)]) d_X12_isFitting_294 5 rfl (inc1 i5) (by decide) rfl ?_
  refine G_goto (tgt := 111) d_X12_isFitting_297 rfl ?_
  refine G_sub (L' := [(0, .ref r0), (1, .int l1), (2, .int l2), (3, .int l3), (4, .int v0), (5, .int (nI (i5 + 1)))]) [2, 3, 4, 5, 1, 0] rfl ?_
  exact h
theorem d_X12_isOnto_0 : decode cX12_isOnto 0 = .ok (.iconst 0, 1) := by decide +kernel
theorem d_X12_isOnto_1 : decode cX12_isOnto 1 = .ok (.istore_n 3, 1) := by decide +kernel
theorem d_X12_isOnto_2 : decode cX12_isOnto 2 = .ok (.iconst 0, 1) := by decide +kernel
theorem d_X12_isOnto_3 : decode cX12_isOnto 3 = .ok (.istore 4, 2) := by decide +kernel
theorem d_X12_isOnto_5 : decode cX12_isOnto 5 = .ok (.iload 4, 2) := by decide +kernel
theorem d_X12_isOnto_7 : decode cX12_isOnto 7 = .ok (.iload_n 2, 1) := by decide +kernel
theorem d_X12_isOnto_8 : decode cX12_isOnto 8 = .ok (.if_icmp .ge 21, 3) := by decide +kernel
theorem d_X12_isOnto_11 : decode cX12_isOnto 11 = .ok (.iload_n 3, 1) := by decide +kernel
theorem d_X12_isOnto_12 : decode cX12_isOnto 12 = .ok (.iconst 1, 1) := by decide +kernel
theorem d_X12_isOnto_13 : decode cX12_isOnto 13 = .ok (.aload_n 0, 1) := by decide +kernel
theorem d_X12_isOnto_14 : decode cX12_isOnto 14 = .ok (.getfield 47, 3) := by decide +kernel
theorem d_X12_isOnto_17 : decode cX12_isOnto 17 = .ok (.iload 4, 2) := by decide +kernel
theorem d_X12_isOnto_19 : decode cX12_isOnto 19 = .ok (.iaload, 1) := by decide +kernel
theorem d_X12_isOnto_20 : decode cX12_isOnto 20 = .ok (.ishl, 1) := by decide +kernel
theorem d_X12_isOnto_21 : decode cX12_isOnto 21 = .ok (.ior, 1) := by decide +kernel
theorem d_X12_isOnto_22 : decode cX12_isOnto 22 = .ok (.istore_n 3, 1) := by decide +kernel
theorem d_X12_isOnto_23 : decode cX12_isOnto 23 = .ok (.iinc 4 1, 3) := by decide +kernel
theorem d_X12_isOnto_26 : decode cX12_isOnto 26 = .ok (.goto (-21), 3) := by decide +kernel
theorem d_X12_isOnto_29 : decode cX12_isOnto 29 = .ok (.iload_n 3, 1) := by decide +kernel
theorem d_X12_isOnto_30 : decode cX12_isOnto 30 = .ok (.iconst 1, 1) := by decide +kernel
theorem d_X12_isOnto_31 : decode cX12_isOnto 31 = .ok (.aload_n 0, 1) := by decide +kernel
theorem d_X12_isOnto_32 : decode cX12_isOnto 32 = .ok (.getfield 7, 3) := by decide +kernel
theorem d_X12_isOnto_35 : decode cX12_isOnto 35 = .ok (.iload_n 1, 1) := by decide +kernel
theorem d_X12_isOnto_36 : decode cX12_isOnto 36 = .ok (.bipush 60, 2) := by decide +kernel
theorem d_X12_isOnto_38 : decode cX12_isOnto 38 = .ok (.iadd, 1) := by decide +kernel
theorem d_X12_isOnto_39 : decode cX12_isOnto 39 = .ok (.iaload, 1) := by decide +kernel
theorem d_X12_isOnto_40 : decode cX12_isOnto 40 = .ok (.ishl, 1) := by decide +kernel
theorem d_X12_isOnto_41 : decode cX12_isOnto 41 = .ok (.iconst 1, 1) := by decide +kernel
theorem d_X12_isOnto_42 : decode cX12_isOnto 42 = .ok (.isub, 1) := by decide +kernel
theorem d_X12_isOnto_43 : decode cX12_isOnto 43 = .ok (.if_icmp .ne 7, 3) := by decide +kernel
theorem d_X12_isOnto_46 : decode cX12_isOnto 46 = .ok (.iconst 1, 1) := by decide +kernel
theorem d_X12_isOnto_47 : decode cX12_isOnto 47 = .ok (.goto 4, 3) := by decide +kernel
theorem d_X12_isOnto_50 : decode cX12_isOnto 50 = .ok (.iconst 0, 1) := by decide +kernel
theorem d_X12_isOnto_51 : decode cX12_isOnto 51 = .ok (.ireturn, 1) := by decide +kernel
theorem b_X12_isOnto_0 {X : cX} {d : Nat} {μ : mM} {K : Option Value → mM → Prop} {r0 : Nat} {l1 : Int32} {l2 : Int32} (h : G X (Rm d) mX12_isOnto 5 [(0, .ref r0), (1, .int l1), (2, .int l2), (3, .int 0), (4, .int (nI 0))] [] μ 0 0 K) : G X (Rm d) mX12_isOnto 0 [(0, .ref r0), (1, .int l1), (2, .int l2)] [] μ 0 0 K := by
  refine G_iconst d_X12_isOnto_0 ic_0 ?_
  refine G_istore_n (L' := [(3, .int 0), (0, .ref r0), (1, .int l1), (2, .int l2)]) d_X12_isOnto_1 rfl (by decide) rfl ?_
  refine G_iconst d_X12_isOnto_2 ic_0 ?_
  refine G_istore (L' := [(4, .int (nI 0)), (3, .int 0), (0, .ref r0), (1, .int l1), (2, .int l2)]) d_X12_isOnto_3 (by decide) rfl ?_
  refine G_sub (L' := [(0, .ref r0), (1, .int l1), (2, .int l2), (3, .int 0), (4, .int (nI 0))]) [2, 3, 4, 1, 0] rfl ?_
  exact h
theorem b_X12_isOnto_5 {X : cX} {d : Nat} {μ : mM} {K : Option Value → mM → Prop} {r0 : Nat} {i1 : Nat} {l2 : Int32} {l3 : Int32} {i4 : Nat} (hw12_r0 : WF12 μ r0) (hb : l2 ≤ (nI i4) → (i1 + 60) < 366) (hK : l2 ≤ (nI i4) → ¬ l3 = (((1 : Int32) <<< ((iv μ (r0 + 1) (i1 + 60)) &&& 31)) - 1) → K (some (.int 0)) μ) (hK_2 : l2 ≤ (nI i4) → l3 = (((1 : Int32) <<< ((iv μ (r0 + 1) (i1 + 60)) &&& 31)) - 1) → K (some (.int 1)) μ) (hb_2 : ¬ l2 ≤ (nI i4) → i4 < 7) (h : ¬ l2 ≤ (nI i4) → G X (Rm d) mX12_isOnto 5 [(0, .ref r0), (1, .int (nI i1)), (2, .int l2), (3, .int (l3 ||| ((1 : Int32) <<< ((iv μ (r0 + 13) i4) &&& 31)))), (4, .int (nI (i4 + 1)))] [] μ 0 0 K) : G X (Rm d) mX12_isOnto 5 [(0, .ref r0), (1, .int (nI i1)), (2, .int l2), (3, .int l3), (4, .int (nI i4))] [] μ 0 0 K := by
  refine G_iload d_X12_isOnto_5 4 rfl ?_
  refine G_iload_n d_X12_isOnto_7 rfl 2 rfl ?_
  refine G_icmp_ge (tgt := 29) d_X12_isOnto_8 rfl (fun c0 => ?_) (fun c0 => ?_)
  ·
    refine G_iload_n d_X12_isOnto_29 rfl 3 rfl ?_
    refine G_iconst d_X12_isOnto_30 ic_1 ?_
    refine G_aload_n d_X12_isOnto_31 rfl 0 rfl ?_
    refine G_getR (r := r0 + 1) 12 0 (w12_kd hw12_r0) (w12_f0 hw12_r0) cok12 (by decide) rfl fl_X12_7 d_X12_isOnto_32 ?_
    refine G_iload_n d_X12_isOnto_35 rfl 1 rfl ?_
    refine G_bipush d_X12_isOnto_36 bp_60 ?_
    refine G_iadd d_X12_isOnto_38 ?_
    refine G_iald (i1 + 60) (w12_k0 hw12_r0) (nadd rfl rfl) (hb c0) d_X12_isOnto_39 ?_
    refine G_ishl d_X12_isOnto_40 ?_
    refine G_iconst d_X12_isOnto_41 ic_1 ?_
    refine G_isub d_X12_isOnto_42 ?_
    refine G_icmp_ne (tgt := 50) d_X12_isOnto_43 rfl (fun c1 => ?_) (fun c1 => ?_)
    ·
      refine G_iconst d_X12_isOnto_50 ic_0 ?_
      exact G_zret rfl rfl rfl rfl d_X12_isOnto_51 (hK c0 c1)
    ·
      refine G_iconst d_X12_isOnto_46 ic_1 ?_
      refine G_goto (tgt := 51) d_X12_isOnto_47 rfl ?_
      exact G_zret rfl rfl rfl rfl d_X12_isOnto_51 (hK_2 c0 c1)
  ·
    refine G_iload_n d_X12_isOnto_11 rfl 3 rfl ?_
    refine G_iconst d_X12_isOnto_12 ic_1 ?_
    refine G_aload_n d_X12_isOnto_13 rfl 0 rfl ?_
    refine G_getR (r := r0 + 13) 12 24 (w12_kd hw12_r0) (w12_f24 hw12_r0) cok12 (by decide) rfl fl_X12_47 d_X12_isOnto_14 ?_
    refine G_iload d_X12_isOnto_17 4 rfl ?_
    refine G_iald i4 (w12_k24 hw12_r0) rfl (hb_2 c0) d_X12_isOnto_19 ?_
    refine G_ishl d_X12_isOnto_20 ?_
    refine G_ior d_X12_isOnto_21 ?_
    refine G_istore_n (L' := [(3, .int (l3 ||| ((1 : Int32) <<< ((iv μ (r0 + 13) i4) &&& 31)))), (0, .ref r0), (1, .int (nI i1)), (2, .int l2), (4, .int (nI i4))]) d_X12_isOnto_22 rfl (by decide) rfl ?_
    refine G_iinc (L' := [(4, .int (nI (i4 + 1))), (3, .int (l3 ||| ((1 : Int32) <<< ((iv μ (r0 + 13) i4) &&& 31)))), (0, .ref r0), (1, .int (nI i1)), (2, .int l2)]) d_X12_isOnto_23 4 rfl (inc1 i4) (by decide) rfl ?_
    refine G_goto (tgt := 5) d_X12_isOnto_26 rfl ?_
    refine G_sub (L' := [(0, .ref r0), (1, .int (nI i1)), (2, .int l2), (3, .int (l3 ||| ((1 : Int32) <<< ((iv μ (r0 + 13) i4) &&& 31)))), (4, .int (nI (i4 + 1)))]) [2, 3, 4, 1, 0] rfl ?_
    exact (h c0)
theorem d_X12_isCovering_0 : decode cX12_isCovering 0 = .ok (.aload_n 0, 1) := by decide +kernel
theorem d_X12_isCovering_1 : decode cX12_isCovering 1 = .ok (.getfield 7, 3) := by decide +kernel
theorem d_X12_isCovering_4 : decode cX12_isCovering 4 = .ok (.iload_n 2, 1) := by decide +kernel
theorem d_X12_isCovering_5 : decode cX12_isCovering 5 = .ok (.bipush 60, 2) := by decide +kernel
theorem d_X12_isCovering_7 : decode cX12_isCovering 7 = .ok (.iadd, 1) := by decide +kernel
theorem d_X12_isCovering_8 : decode cX12_isCovering 8 = .ok (.iaload, 1) := by decide +kernel
theorem d_X12_isCovering_9 : decode cX12_isCovering 9 = .ok (.istore_n 3, 1) := by decide +kernel
theorem d_X12_isCovering_10 : decode cX12_isCovering 10 = .ok (.aload_n 0, 1) := by decide +kernel
theorem d_X12_isCovering_11 : decode cX12_isCovering 11 = .ok (.getfield 7, 3) := by decide +kernel
theorem d_X12_isCovering_14 : decode cX12_isCovering 14 = .ok (.iload_n 1, 1) := by decide +kernel
theorem d_X12_isCovering_15 : decode cX12_isCovering 15 = .ok (.bipush 60, 2) := by decide +kernel
theorem d_X12_isCovering_17 : decode cX12_isCovering 17 = .ok (.iadd, 1) := by decide +kernel
theorem d_X12_isCovering_18 : decode cX12_isCovering 18 = .ok (.iaload, 1) := by decide +kernel
theorem d_X12_isCovering_19 : decode cX12_isCovering 19 = .ok (.istore 4, 2) := by decide +kernel
theorem d_X12_isCovering_21 : decode cX12_isCovering 21 = .ok (.iconst 0, 1) := by decide +kernel
theorem d_X12_isCovering_22 : decode cX12_isCovering 22 = .ok (.istore 5, 2) := by decide +kernel
theorem d_X12_isCovering_24 : decode cX12_isCovering 24 = .ok (.aload_n 0, 1) := by decide +kernel
theorem d_X12_isCovering_25 : decode cX12_isCovering 25 = .ok (.getfield 47, 3) := by decide +kernel
theorem d_X12_isCovering_28 : decode cX12_isCovering 28 = .ok (.iconst 0, 1) := by decide +kernel
theorem d_X12_isCovering_29 : decode cX12_isCovering 29 = .ok (.iconst (-1), 1) := by decide +kernel
theorem d_X12_isCovering_30 : decode cX12_isCovering 30 = .ok (.iastore, 1) := by decide +kernel
theorem d_X12_isCovering_31 : decode cX12_isCovering 31 = .ok (.iload_n 3, 1) := by decide +kernel
theorem d_X12_isCovering_32 : decode cX12_isCovering 32 = .ok (.ifCond .ne 14, 3) := by decide +kernel
theorem d_X12_isCovering_35 : decode cX12_isCovering 35 = .ok (.iload 4, 2) := by decide +kernel
theorem d_X12_isCovering_37 : decode cX12_isCovering 37 = .ok (.ifCond .ne 7, 3) := by decide +kernel
theorem d_X12_isCovering_40 : decode cX12_isCovering 40 = .ok (.iconst 1, 1) := by decide +kernel
theorem d_X12_isCovering_41 : decode cX12_isCovering 41 = .ok (.goto 4, 3) := by decide +kernel
theorem d_X12_isCovering_44 : decode cX12_isCovering 44 = .ok (.iconst 0, 1) := by decide +kernel
theorem d_X12_isCovering_45 : decode cX12_isCovering 45 = .ok (.ireturn, 1) := by decide +kernel
theorem d_X12_isCovering_46 : decode cX12_isCovering 46 = .ok (.iload 5, 2) := by decide +kernel
theorem d_X12_isCovering_48 : decode cX12_isCovering 48 = .ok (.ifCond .lt 84, 3) := by decide +kernel
theorem d_X12_isCovering_51 : decode cX12_isCovering 51 = .ok (.aload_n 0, 1) := by decide +kernel
theorem d_X12_isCovering_52 : decode cX12_isCovering 52 = .ok (.getfield 47, 3) := by decide +kernel
theorem d_X12_isCovering_55 : decode cX12_isCovering 55 = .ok (.iload 5, 2) := by decide +kernel
theorem d_X12_isCovering_57 : decode cX12_isCovering 57 = .ok (.dup2, 1) := by decide +kernel
theorem d_X12_isCovering_58 : decode cX12_isCovering 58 = .ok (.iaload, 1) := by decide +kernel
theorem d_X12_isCovering_59 : decode cX12_isCovering 59 = .ok (.iconst 1, 1) := by decide +kernel
theorem d_X12_isCovering_60 : decode cX12_isCovering 60 = .ok (.iadd, 1) := by decide +kernel
theorem d_X12_isCovering_61 : decode cX12_isCovering 61 = .ok (.iastore, 1) := by decide +kernel
theorem d_X12_isCovering_62 : decode cX12_isCovering 62 = .ok (.aload_n 0, 1) := by decide +kernel
theorem d_X12_isCovering_63 : decode cX12_isCovering 63 = .ok (.getfield 47, 3) := by decide +kernel
theorem d_X12_isCovering_66 : decode cX12_isCovering 66 = .ok (.iload 5, 2) := by decide +kernel
theorem d_X12_isCovering_68 : decode cX12_isCovering 68 = .ok (.iaload, 1) := by decide +kernel
theorem d_X12_isCovering_69 : decode cX12_isCovering 69 = .ok (.iload 4, 2) := by decide +kernel
theorem d_X12_isCovering_71 : decode cX12_isCovering 71 = .ok (.if_icmp .lt 9, 3) := by decide +kernel
theorem d_X12_isCovering_74 : decode cX12_isCovering 74 = .ok (.iinc 5 (-1), 3) := by decide +kernel
theorem d_X12_isCovering_77 : decode cX12_isCovering 77 = .ok (.goto (-31), 3) := by decide +kernel
theorem d_X12_isCovering_80 : decode cX12_isCovering 80 = .ok (.aload_n 0, 1) := by decide +kernel
theorem d_X12_isCovering_81 : decode cX12_isCovering 81 = .ok (.iload_n 1, 1) := by decide +kernel
theorem d_X12_isCovering_82 : decode cX12_isCovering 82 = .ok (.iload_n 2, 1) := by decide +kernel
theorem d_X12_isCovering_83 : decode cX12_isCovering 83 = .ok (.iload 5, 2) := by decide +kernel
theorem d_X12_isCovering_85 : decode cX12_isCovering 85 = .ok (.invokevirtual 293, 3) := by decide +kernel
theorem d_X12_isCovering_88 : decode cX12_isCovering 88 = .ok (.ifCond .eq (-42), 3) := by decide +kernel
theorem d_X12_isCovering_91 : decode cX12_isCovering 91 = .ok (.iload 5, 2) := by decide +kernel
theorem d_X12_isCovering_93 : decode cX12_isCovering 93 = .ok (.iload_n 3, 1) := by decide +kernel
theorem d_X12_isCovering_94 : decode cX12_isCovering 94 = .ok (.iconst 1, 1) := by decide +kernel
theorem d_X12_isCovering_95 : decode cX12_isCovering 95 = .ok (.isub, 1) := by decide +kernel
theorem d_X12_isCovering_96 : decode cX12_isCovering 96 = .ok (.if_icmp .ne 14, 3) := by decide +kernel
theorem d_X12_isCovering_99 : decode cX12_isCovering 99 = .ok (.aload_n 0, 1) := by decide +kernel
theorem d_X12_isCovering_100 : decode cX12_isCovering 100 = .ok (.iload_n 1, 1) := by decide +kernel
theorem d_X12_isCovering_101 : decode cX12_isCovering 101 = .ok (.iload_n 3, 1) := by decide +kernel
theorem d_X12_isCovering_102 : decode cX12_isCovering 102 = .ok (.invokevirtual 296, 3) := by decide +kernel
theorem d_X12_isCovering_105 : decode cX12_isCovering 105 = .ok (.ifCond .eq 5, 3) := by decide +kernel
theorem d_X12_isCovering_108 : decode cX12_isCovering 108 = .ok (.iconst 1, 1) := by decide +kernel
theorem d_X12_isCovering_109 : decode cX12_isCovering 109 = .ok (.ireturn, 1) := by decide +kernel
theorem d_X12_isCovering_110 : decode cX12_isCovering 110 = .ok (.iload 5, 2) := by decide +kernel
theorem d_X12_isCovering_112 : decode cX12_isCovering 112 = .ok (.iload_n 3, 1) := by decide +kernel
theorem d_X12_isCovering_113 : decode cX12_isCovering 113 = .ok (.iconst 1, 1) := by decide +kernel
theorem d_X12_isCovering_114 : decode cX12_isCovering 114 = .ok (.isub, 1) := by decide +kernel
theorem d_X12_isCovering_115 : decode cX12_isCovering 115 = .ok (.if_icmp .ge (-69), 3) := by decide +kernel
theorem d_X12_isCovering_118 : decode cX12_isCovering 118 = .ok (.iinc 5 1, 3) := by decide +kernel
theorem d_X12_isCovering_121 : decode cX12_isCovering 121 = .ok (.aload_n 0, 1) := by decide +kernel
theorem d_X12_isCovering_122 : decode cX12_isCovering 122 = .ok (.getfield 47, 3) := by decide +kernel
theorem d_X12_isCovering_125 : decode cX12_isCovering 125 = .ok (.iload 5, 2) := by decide +kernel
theorem d_X12_isCovering_127 : decode cX12_isCovering 127 = .ok (.iconst (-1), 1) := by decide +kernel
theorem d_X12_isCovering_128 : decode cX12_isCovering 128 = .ok (.iastore, 1) := by decide +kernel
theorem d_X12_isCovering_129 : decode cX12_isCovering 129 = .ok (.goto (-83), 3) := by decide +kernel
theorem d_X12_isCovering_132 : decode cX12_isCovering 132 = .ok (.iconst 0, 1) := by decide +kernel
theorem d_X12_isCovering_133 : decode cX12_isCovering 133 = .ok (.ireturn, 1) := by decide +kernel
theorem b_X12_isCovering_0 {X : cX} {d : Nat} {μ : mM} {K : Option Value → mM → Prop} {r0 : Nat} {i1 : Nat} {i2 : Nat} (hw12_r0 : WF12 μ r0) (hb : (i2 + 60) < 366) (hb_2 : (i1 + 60) < 366) (h : ¬ (iv μ (r0 + 1) (i2 + 60)) = 0 → G X (Rm (d + 2)) mX12_isCovering 46 [(0, .ref r0), (1, .int (nI i1)), (2, .int (nI i2)), (3, .int (iv μ (r0 + 1) (i2 + 60))), (4, .int (iv μ (r0 + 1) (i1 + 60))), (5, .int 0)] [] (wi μ (r0 + 13) 0 (-1)) 0 0 K) (hK : (iv μ (r0 + 1) (i2 + 60)) = 0 → ¬ (iv μ (r0 + 1) (i1 + 60)) = 0 → K (some (.int 0)) (wi μ (r0 + 13) 0 (-1))) (hK_2 : (iv μ (r0 + 1) (i2 + 60)) = 0 → (iv μ (r0 + 1) (i1 + 60)) = 0 → K (some (.int 1)) (wi μ (r0 + 13) 0 (-1))) : G X (Rm (d + 2)) mX12_isCovering 0 [(0, .ref r0), (1, .int (nI i1)), (2, .int (nI i2))] [] μ 0 0 K := by
  refine G_aload_n d_X12_isCovering_0 rfl 0 rfl ?_
  refine G_getR (r := r0 + 1) 12 0 (w12_kd hw12_r0) (w12_f0 hw12_r0) cok12 (by decide) rfl fl_X12_7 d_X12_isCovering_1 ?_
  refine G_iload_n d_X12_isCovering_4 rfl 2 rfl ?_
  refine G_bipush d_X12_isCovering_5 bp_60 ?_
  refine G_iadd d_X12_isCovering_7 ?_
  refine G_iald (i2 + 60) (w12_k0 hw12_r0) (nadd rfl rfl) hb d_X12_isCovering_8 ?_
  refine G_istore_n (L' := [(3, .int (iv μ (r0 + 1) (i2 + 60))), (0, .ref r0), (1, .int (nI i1)), (2, .int (nI i2))]) d_X12_isCovering_9 rfl (by decide) rfl ?_
  refine G_aload_n d_X12_isCovering_10 rfl 1 rfl ?_
  refine G_getR (r := r0 + 1) 12 0 (w12_kd hw12_r0) (w12_f0 hw12_r0) cok12 (by decide) rfl fl_X12_7 d_X12_isCovering_11 ?_
  refine G_iload_n d_X12_isCovering_14 rfl 2 rfl ?_
  refine G_bipush d_X12_isCovering_15 bp_60 ?_
  refine G_iadd d_X12_isCovering_17 ?_
  refine G_iald (i1 + 60) (w12_k0 hw12_r0) (nadd rfl rfl) hb_2 d_X12_isCovering_18 ?_
  refine G_istore (L' := [(4, .int (iv μ (r0 + 1) (i1 + 60))), (3, .int (iv μ (r0 + 1) (i2 + 60))), (0, .ref r0), (1, .int (nI i1)), (2, .int (nI i2))]) d_X12_isCovering_19 (by decide) rfl ?_
  refine G_iconst d_X12_isCovering_21 ic_0 ?_
  refine G_istore (L' := [(5, .int 0), (4, .int (iv μ (r0 + 1) (i1 + 60))), (3, .int (iv μ (r0 + 1) (i2 + 60))), (0, .ref r0), (1, .int (nI i1)), (2, .int (nI i2))]) d_X12_isCovering_22 (by decide) rfl ?_
  refine G_aload_n d_X12_isCovering_24 rfl 3 rfl ?_
  refine G_getR (r := r0 + 13) 12 24 (w12_kd hw12_r0) (w12_f24 hw12_r0) cok12 (by decide) rfl fl_X12_47 d_X12_isCovering_25 ?_
  refine G_iconst d_X12_isCovering_28 ic_0 ?_
  refine G_iconst d_X12_isCovering_29 ic_m1 ?_
  refine G_iast 0 (w12_k24 hw12_r0) rfl (by decide) d_X12_isCovering_30 ?_
  refine G_iload_n d_X12_isCovering_31 rfl 2 rfl ?_
  refine G_if_ne (tgt := 46) d_X12_isCovering_32 rfl (fun c0 => ?_) (fun c0 => ?_)
  ·
    refine G_sub (L' := [(0, .ref r0), (1, .int (nI i1)), (2, .int (nI i2)), (3, .int (iv μ (r0 + 1) (i2 + 60))), (4, .int (iv μ (r0 + 1) (i1 + 60))), (5, .int 0)]) [3, 4, 5, 2, 1, 0] rfl ?_
    exact (h c0)
  ·
    refine G_iload d_X12_isCovering_35 1 rfl ?_
    refine G_if_ne (tgt := 44) d_X12_isCovering_37 rfl (fun c1 => ?_) (fun c1 => ?_)
    ·
      refine G_iconst d_X12_isCovering_44 ic_0 ?_
      exact G_zret rfl rfl rfl rfl d_X12_isCovering_45 (hK c0 c1)
    ·
      refine G_iconst d_X12_isCovering_40 ic_1 ?_
      refine G_goto (tgt := 45) d_X12_isCovering_41 rfl ?_
      exact G_zret rfl rfl rfl rfl d_X12_isCovering_45 (hK_2 c0 c1)
theorem b_X12_isCovering_46 {X : cX} {d : Nat} {μ : mM} {K : Option Value → mM → Prop} {r0 : Nat} {l1 : Int32} {l2 : Int32} {l3 : Int32} {l4 : Int32} {l5 : Int32} {j0 : Nat} (hK : l5 < 0 → K (some (.int 0)) μ) (hw12_r0 : WF12 μ r0) (hi_j0 : ¬ l5 < 0 → l5 = nI j0) (hb : ¬ l5 < 0 → j0 < 7) (hc_isFitting : ¬ l5 < 0 → (iv (wi μ (r0 + 13) j0 ((iv μ (r0 + 13) j0) + 1)) (r0 + 13) j0) < l4 → Ct X (Rm (d + 1)) mX12_isFitting [.ref r0, .int l1, .int l2, .int l5] (wi μ (r0 + 13) j0 ((iv μ (r0 + 13) j0) + 1)) (fun r μ2 => G X (Rm (d + 2)) mX12_isCovering 88 [(0, .ref r0), (1, .int l1), (2, .int l2), (3, .int l3), (4, .int l4), (5, .int l5)] (r.toList ++ []) μ2 0 0 K)) (h : ¬ l5 < 0 → ¬ (iv (wi μ (r0 + 13) j0 ((iv μ (r0 + 13) j0) + 1)) (r0 + 13) j0) < l4 → G X (Rm (d + 2)) mX12_isCovering 46 [(0, .ref r0), (1, .int l1), (2, .int l2), (3, .int l3), (4, .int l4), (5, .int (l5 + (-1)))] [] (wi μ (r0 + 13) j0 ((iv μ (r0 + 13) j0) + 1)) 0 0 K) : G X (Rm (d + 2)) mX12_isCovering 46 [(0, .ref r0), (1, .int l1), (2, .int l2), (3, .int l3), (4, .int l4), (5, .int l5)] [] μ 0 0 K := by
  refine G_iload d_X12_isCovering_46 5 rfl ?_
  refine G_if_lt (tgt := 132) d_X12_isCovering_48 rfl (fun c0 => ?_) (fun c0 => ?_)
  ·
    refine G_iconst d_X12_isCovering_132 ic_0 ?_
    exact G_zret rfl rfl rfl rfl d_X12_isCovering_133 (hK c0)
  ·
    refine G_aload_n d_X12_isCovering_51 rfl 0 rfl ?_
    refine G_getR (r := r0 + 13) 12 24 (w12_kd hw12_r0) (w12_f24 hw12_r0) cok12 (by decide) rfl fl_X12_47 d_X12_isCovering_52 ?_
    refine G_iload d_X12_isCovering_55 5 rfl ?_
    refine G_dup2_11 d_X12_isCovering_57 rfl rfl ?_
    refine G_iald j0 (w12_k24 hw12_r0) (hi_j0 c0) (hb c0) d_X12_isCovering_58 ?_
    refine G_iconst d_X12_isCovering_59 ic_1 ?_
    refine G_iadd d_X12_isCovering_60 ?_
    refine G_iast j0 (w12_k24 hw12_r0) (hi_j0 c0) (hb c0) d_X12_isCovering_61 ?_
    refine G_aload_n d_X12_isCovering_62 rfl 0 rfl ?_
    refine G_getR (r := r0 + 13) 12 24 (w12_kd hw12_r0) (w12_f24 hw12_r0) cok12 (by decide) rfl fl_X12_47 d_X12_isCovering_63 ?_
    refine G_iload d_X12_isCovering_66 5 rfl ?_
    refine G_iald j0 (w12_k24 hw12_r0) (hi_j0 c0) (hb c0) d_X12_isCovering_68 ?_
    refine G_iload d_X12_isCovering_69 4 rfl ?_
    refine G_icmp_lt (tgt := 80) d_X12_isCovering_71 rfl (fun c1 => ?_) (fun c1 => ?_)
    ·
      refine G_aload_n d_X12_isCovering_80 rfl 0 rfl ?_
      refine G_iload_n d_X12_isCovering_81 rfl 1 rfl ?_
      refine G_iload_n d_X12_isCovering_82 rfl 2 rfl ?_
      refine G_iload d_X12_isCovering_83 5 rfl ?_
      refine G_callV (M' := mX12_isFitting) (R' := (Rm (d + 1))) (S := []) [.int l1, .int l2, .int l5] 12 (w12_kd hw12_r0) cok12 rfl ok_X12_isFitting ml_X12_293 pn_X12_isFitting (ru_Rm (by decide)) (Nat.le_of_ble_eq_true rfl) d_X12_isCovering_85 ?_
      exact (hc_isFitting c0 c1)
    ·
      refine G_iinc (L' := [(5, .int (l5 + (-1))), (0, .ref r0), (1, .int l1), (2, .int l2), (3, .int l3), (4, .int l4)]) d_X12_isCovering_74 5 rfl (decI _) (by decide) rfl ?_
      refine G_goto (tgt := 46) d_X12_isCovering_77 rfl ?_
      refine G_sub (L' := [(0, .ref r0), (1, .int l1), (2, .int l2), (3, .int l3), (4, .int l4), (5, .int (l5 + (-1)))]) [1, 2, 3, 4, 5, 0] rfl ?_
      exact (h c0 c1)
theorem b_X12_isCovering_88 {X : cX} {d : Nat} {μ : mM} {K : Option Value → mM → Prop} {r0 : Nat} {l1 : Int32} {l2 : Int32} {l3 : Int32} {l4 : Int32} {l5 : Int32} {v0 : Int32} (h : v0 = 0 → G X (Rm (d + 2)) mX12_isCovering 46 [(0, .ref r0), (1, .int l1), (2, .int l2), (3, .int l3), (4, .int l4), (5, .int l5)] [] μ 0 0 K) (h_2 : ¬ v0 = 0 → ¬ l5 = (l3 - 1) → G X (Rm (d + 2)) mX12_isCovering 110 [(0, .ref r0), (1, .int l1), (2, .int l2), (3, .int l3), (4, .int l4), (5, .int l5)] [] μ 0 0 K) (hw12_r0 : WF12 μ r0) (hc_isOnto : ¬ v0 = 0 → l5 = (l3 - 1) → Ct X (Rm (d + 1)) mX12_isOnto [.ref r0, .int l1, .int l3] μ (fun r μ2 => G X (Rm (d + 2)) mX12_isCovering 105 [(0, .ref r0), (1, .int l1), (2, .int l2), (3, .int l3), (4, .int l4), (5, .int l5)] (r.toList ++ []) μ2 0 0 K)) : G X (Rm (d + 2)) mX12_isCovering 88 [(0, .ref r0), (1, .int l1), (2, .int l2), (3, .int l3), (4, .int l4), (5, .int l5)] [.int v0] μ 0 0 K := by
  refine G_if_eq (tgt := 46) d_X12_isCovering_88 rfl (fun c0 => ?_) (fun c0 => ?_)
  ·
    exact (h c0)
  ·
    refine G_iload d_X12_isCovering_91 5 rfl ?_
    refine G_iload_n d_X12_isCovering_93 rfl 3 rfl ?_
    refine G_iconst d_X12_isCovering_94 ic_1 ?_
    refine G_isub d_X12_isCovering_95 ?_
    refine G_icmp_ne (tgt := 110) d_X12_isCovering_96 rfl (fun c1 => ?_) (fun c1 => ?_)
    ·
      exact (h_2 c0 c1)
    ·
      refine G_aload_n d_X12_isCovering_99 rfl 0 rfl ?_
      refine G_iload_n d_X12_isCovering_100 rfl 1 rfl ?_
      refine G_iload_n d_X12_isCovering_101 rfl 3 rfl ?_
      refine G_callV (M' := mX12_isOnto) (R' := (Rm (d + 1))) (S := []) [.int l1, .int l3] 12 (w12_kd hw12_r0) cok12 rfl ok_X12_isOnto ml_X12_296 pn_X12_isOnto (ru_Rm (by decide)) (Nat.le_of_ble_eq_true rfl) d_X12_isCovering_102 ?_
      exact (hc_isOnto c0 c1)
theorem b_X12_isCovering_105 {X : cX} {d : Nat} {μ : mM} {K : Option Value → mM → Prop} {r0 : Nat} {l1 : Int32} {l2 : Int32} {l3 : Int32} {l4 : Int32} {l5 : Int32} {v0 : Int32} (h : v0 = 0 → G X (Rm (d + 2)) mX12_isCovering 110 [(0, .ref r0), (1, .int l1), (2, .int l2), (3, .int l3), (4, .int l4), (5, .int l5)] [] μ 0 0 K) (hK : ¬ v0 = 0 → K (some (.int 1)) μ) : G X (Rm (d + 2)) mX12_isCovering 105 [(0, .ref r0), (1, .int l1), (2, .int l2), (3, .int l3), (4, .int l4), (5, .int l5)] [.int v0] μ 0 0 K := by
  refine G_if_eq (tgt := 110) d_X12_isCovering_105 rfl (fun c0 => ?_) (fun c0 => ?_)
  ·
    exact (h c0)
  ·
    refine G_iconst d_X12_isCovering_108 ic_1 ?_
    exact G_zret rfl rfl rfl rfl d_X12_isCovering_109 (hK c0)
theorem b_X12_isCovering_110 {X : cX} {d : Nat} {μ : mM} {K : Option Value → mM → Prop} {r0 : Nat} {l1 : Int32} {l2 : Int32} {l3 : Int32} {l4 : Int32} {l5 : Int32} {j0 : Nat} (h : (l3 - 1) ≤ l5 → G X (Rm (d + 2)) mX12_isCovering 46 [(0, .ref r0), (1, .int l1), (2, .int l2), (3, .int l3), (4, .int l4), (5, .int l5)] [] μ 0 0 K) (hw12_r0 : WF12 μ r0) (hi_j0 : ¬ (l3 - 1) ≤ l5 → l5 + 1 = nI j0) (hb : ¬ (l3 - 1) ≤ l5 → j0 < 7) (h_2 : ¬ (l3 - 1) ≤ l5 → G X (Rm (d + 2)) mX12_isCovering 46 [(0, .ref r0), (1, .int l1), (2, .int l2), (3, .int l3), (4, .int l4), (5, .int (l5 + 1))] [] (wi μ (r0 + 13) j0 (-1)) 0 0 K) : G X (Rm (d + 2)) mX12_isCovering 110 [(0, .ref r0), (1, .int l1), (2, .int l2), (3, .int l3), (4, .int l4), (5, .int l5)] [] μ 0 0 K := by
  refine G_iload d_X12_isCovering_110 5 rfl ?_
  refine G_iload_n d_X12_isCovering_112 rfl 3 rfl ?_
  refine G_iconst d_X12_isCovering_113 ic_1 ?_
  refine G_isub d_X12_isCovering_114 ?_
  refine G_icmp_ge (tgt := 46) d_X12_isCovering_115 rfl (fun c0 => ?_) (fun c0 => ?_)
  ·
    exact (h c0)
  ·
    refine G_iinc (L' := [(5, .int (l5 + 1)), (0, .ref r0), (1, .int l1), (2, .int l2), (3, .int l3), (4, .int l4)]) d_X12_isCovering_118 5 rfl (incI _) (by decide) rfl ?_
    refine G_aload_n d_X12_isCovering_121 rfl 1 rfl ?_
    refine G_getR (r := r0 + 13) 12 24 (w12_kd hw12_r0) (w12_f24 hw12_r0) cok12 (by decide) rfl fl_X12_47 d_X12_isCovering_122 ?_
    refine G_iload d_X12_isCovering_125 0 rfl ?_
    refine G_iconst d_X12_isCovering_127 ic_m1 ?_
    refine G_iast j0 (w12_k24 hw12_r0) (hi_j0 c0) (hb c0) d_X12_isCovering_128 ?_
    refine G_goto (tgt := 46) d_X12_isCovering_129 rfl ?_
    refine G_sub (L' := [(0, .ref r0), (1, .int l1), (2, .int l2), (3, .int l3), (4, .int l4), (5, .int (l5 + 1))]) [1, 2, 3, 4, 5, 0] rfl ?_
    exact (h_2 c0)
theorem d_X12_covers_0 : decode cX12_covers 0 = .ok (.iload_n 1, 1) := by decide +kernel
theorem d_X12_covers_1 : decode cX12_covers 1 = .ok (.i2l, 1) := by decide +kernel
theorem d_X12_covers_2 : decode cX12_covers 2 = .ok (.lconst 0, 1) := by decide +kernel
theorem d_X12_covers_3 : decode cX12_covers 3 = .ok (.lconst 1, 1) := by decide +kernel
theorem d_X12_covers_4 : decode cX12_covers 4 = .ok (.invokestatic 61, 3) := by decide +kernel
theorem d_X12_covers_7 : decode cX12_covers 7 = .ok (.ifCond .eq 10, 3) := by decide +kernel
theorem d_X12_covers_10 : decode cX12_covers 10 = .ok (.iload_n 2, 1) := by decide +kernel
theorem d_X12_covers_11 : decode cX12_covers 11 = .ok (.invokestatic 235, 3) := by decide +kernel
theorem d_X12_covers_14 : decode cX12_covers 14 = .ok (.ifCond .ne 5, 3) := by decide +kernel
theorem d_X12_covers_17 : decode cX12_covers 17 = .ok (.iconst (-1), 1) := by decide +kernel
theorem d_X12_covers_18 : decode cX12_covers 18 = .ok (.ireturn, 1) := by decide +kernel
theorem d_X12_covers_19 : decode cX12_covers 19 = .ok (.aload_n 0, 1) := by decide +kernel
theorem d_X12_covers_20 : decode cX12_covers 20 = .ok (.getfield 43, 3) := by decide +kernel
theorem d_X12_covers_23 : decode cX12_covers 23 = .ok (.iload_n 1, 1) := by decide +kernel
theorem d_X12_covers_24 : decode cX12_covers 24 = .ok (.baload, 1) := by decide +kernel
theorem d_X12_covers_25 : decode cX12_covers 25 = .ok (.ifCond .ne 6, 3) := by decide +kernel
theorem d_X12_covers_28 : decode cX12_covers 28 = .ok (.bipush (-2), 2) := by decide +kernel
theorem d_X12_covers_30 : decode cX12_covers 30 = .ok (.ireturn, 1) := by decide +kernel
theorem d_X12_covers_31 : decode cX12_covers 31 = .ok (.bipush 61, 2) := by decide +kernel
theorem d_X12_covers_33 : decode cX12_covers 33 = .ok (.iload_n 1, 1) := by decide +kernel
theorem d_X12_covers_34 : decode cX12_covers 34 = .ok (.imul, 1) := by decide +kernel
theorem d_X12_covers_35 : decode cX12_covers 35 = .ok (.bipush 61, 2) := by decide +kernel
theorem d_X12_covers_37 : decode cX12_covers 37 = .ok (.iadd, 1) := by decide +kernel
theorem d_X12_covers_38 : decode cX12_covers 38 = .ok (.istore_n 3, 1) := by decide +kernel
theorem d_X12_covers_39 : decode cX12_covers 39 = .ok (.iload_n 2, 1) := by decide +kernel
theorem d_X12_covers_40 : decode cX12_covers 40 = .ok (.ifCond .ne 15, 3) := by decide +kernel
theorem d_X12_covers_43 : decode cX12_covers 43 = .ok (.aload_n 0, 1) := by decide +kernel
theorem d_X12_covers_44 : decode cX12_covers 44 = .ok (.iconst 0, 1) := by decide +kernel
theorem d_X12_covers_45 : decode cX12_covers 45 = .ok (.iload_n 3, 1) := by decide +kernel
theorem d_X12_covers_46 : decode cX12_covers 46 = .ok (.invokevirtual 299, 3) := by decide +kernel
theorem d_X12_covers_49 : decode cX12_covers 49 = .ok (.ifCond .eq 19, 3) := by decide +kernel
theorem d_X12_covers_52 : decode cX12_covers 52 = .ok (.goto 12, 3) := by decide +kernel
theorem d_X12_covers_55 : decode cX12_covers 55 = .ok (.aload_n 0, 1) := by decide +kernel
theorem d_X12_covers_56 : decode cX12_covers 56 = .ok (.iload_n 3, 1) := by decide +kernel
theorem d_X12_covers_57 : decode cX12_covers 57 = .ok (.iconst 0, 1) := by decide +kernel
theorem d_X12_covers_58 : decode cX12_covers 58 = .ok (.invokevirtual 299, 3) := by decide +kernel
theorem d_X12_covers_61 : decode cX12_covers 61 = .ok (.ifCond .eq 7, 3) := by decide +kernel
theorem d_X12_covers_64 : decode cX12_covers 64 = .ok (.iconst 1, 1) := by decide +kernel
theorem d_X12_covers_65 : decode cX12_covers 65 = .ok (.goto 4, 3) := by decide +kernel
theorem d_X12_covers_68 : decode cX12_covers 68 = .ok (.iconst 0, 1) := by decide +kernel
theorem d_X12_covers_69 : decode cX12_covers 69 = .ok (.ireturn, 1) := by decide +kernel
theorem b_X12_covers_0 {X : cX} {d : Nat} {μ : mM} {K : Option Value → mM → Prop} {r0 : Nat} {i1 : Nat} {l2 : Int32} (hK : (e_X12_in μ ((nI i1).toInt64) 0 1) = 0 → K (some (.int (-1))) μ) (hs : ¬ (e_X12_in μ ((nI i1).toInt64) 0 1) = 0 → e_X12_in μ l2.toInt64 0 1 = 0 ∨ e_X12_in μ l2.toInt64 0 1 = 1) (hw12_r0 : WF12 μ r0) (hb : ¬ (e_X12_in μ ((nI i1).toInt64) 0 1) = 0 → ¬ (e_X12_isFlag μ l2) = 0 → i1 < 2) (hc_isCovering : ¬ (e_X12_in μ ((nI i1).toInt64) 0 1) = 0 → ¬ (e_X12_isFlag μ l2) = 0 → ¬ (iv μ (r0 + 12) i1) = 0 → ¬ l2 = 0 → Ct X (Rm (d + 2)) mX12_isCovering [.ref r0, .int (((61 : Int32) * (nI i1)) + 61), .int 0] μ (fun r μ2 => G X (Rm (d + 3)) mX12_covers 61 [] (r.toList ++ []) μ2 0 0 K)) (hc_isCovering_2 : ¬ (e_X12_in μ ((nI i1).toInt64) 0 1) = 0 → ¬ (e_X12_isFlag μ l2) = 0 → ¬ (iv μ (r0 + 12) i1) = 0 → l2 = 0 → Ct X (Rm (d + 2)) mX12_isCovering [.ref r0, .int 0, .int (((61 : Int32) * (nI i1)) + 61)] μ (fun r μ2 => G X (Rm (d + 3)) mX12_covers 49 [] (r.toList ++ []) μ2 0 0 K)) (hK_2 : ¬ (e_X12_in μ ((nI i1).toInt64) 0 1) = 0 → ¬ (e_X12_isFlag μ l2) = 0 → (iv μ (r0 + 12) i1) = 0 → K (some (.int (-2))) μ) (hK_3 : ¬ (e_X12_in μ ((nI i1).toInt64) 0 1) = 0 → (e_X12_isFlag μ l2) = 0 → K (some (.int (-1))) μ) : G X (Rm (d + 3)) mX12_covers 0 [(0, .ref r0), (1, .int (nI i1)), (2, .int l2)] [] μ 0 0 K := by
  refine G_iload_n d_X12_covers_0 rfl 1 rfl ?_
  refine G_i2l (v := (nI i1).toInt64) d_X12_covers_1 rfl ?_
  refine G_lconst (v := 0) d_X12_covers_2 rfl ?_
  refine G_lconst (v := 1) d_X12_covers_3 rfl ?_
  refine G_callS (M' := mX12_in) (R' := (Rm (d + 2))) (S := []) [.long ((nI i1).toInt64), .long 0, .long 1] ok_X12_in ml_X12_61 pn_X12_in (ru_Rm (by decide)) (Nat.le_of_ble_eq_true rfl) d_X12_covers_4 (s_X12_in (μ := μ)   ?_)
  show G X (Rm (d + 3)) mX12_covers 7 [(0, .ref r0), (1, .int (nI i1)), (2, .int l2)] [.int (e_X12_in μ ((nI i1).toInt64) 0 1)] μ 0 0 K
  refine G_if_eq (tgt := 17) d_X12_covers_7 rfl (fun c0 => ?_) (fun c0 => ?_)
  ·
    refine G_iconst d_X12_covers_17 ic_m1 ?_
    exact G_iret rfl rfl rfl d_X12_covers_18 (hK c0)
  ·
    refine G_iload_n d_X12_covers_10 rfl 2 rfl ?_
    refine G_callS (M' := mX12_isFlag) (R' := (Rm (d + 2))) (S := []) [.int l2] ok_X12_isFlag ml_X12_235 pn_X12_isFlag (ru_Rm (by decide)) (Nat.le_of_ble_eq_true rfl) d_X12_covers_11 (s_X12_isFlag (μ := μ)  (hs c0) ?_)
    show G X (Rm (d + 3)) mX12_covers 14 [(0, .ref r0), (1, .int (nI i1)), (2, .int l2)] [.int (e_X12_isFlag μ l2)] μ 0 0 K
    refine G_if_ne (tgt := 19) d_X12_covers_14 rfl (fun c1 => ?_) (fun c1 => ?_)
    ·
      refine G_aload_n d_X12_covers_19 rfl 0 rfl ?_
      refine G_getR (r := r0 + 12) 12 23 (w12_kd hw12_r0) (w12_f23 hw12_r0) cok12 (by decide) rfl fl_X12_43 d_X12_covers_20 ?_
      refine G_iload_n d_X12_covers_23 rfl 1 rfl ?_
      refine G_zald i1 (w12_k23 hw12_r0) rfl (hb c0 c1) d_X12_covers_24 ?_
      refine G_if_ne (tgt := 31) d_X12_covers_25 rfl (fun c2 => ?_) (fun c2 => ?_)
      ·
        refine G_bipush d_X12_covers_31 bp_61 ?_
        refine G_iload_n d_X12_covers_33 rfl 1 rfl ?_
        refine G_imul d_X12_covers_34 ?_
        refine G_bipush d_X12_covers_35 bp_61 ?_
        refine G_iadd d_X12_covers_37 ?_
        refine G_istore_n (L' := [(3, .int (((61 : Int32) * (nI i1)) + 61)), (0, .ref r0), (1, .int (nI i1)), (2, .int l2)]) d_X12_covers_38 rfl (by decide) rfl ?_
        refine G_iload_n d_X12_covers_39 rfl 3 rfl ?_
        refine G_if_ne (tgt := 55) d_X12_covers_40 rfl (fun c3 => ?_) (fun c3 => ?_)
        ·
          refine G_aload_n d_X12_covers_55 rfl 1 rfl ?_
          refine G_iload_n d_X12_covers_56 rfl 0 rfl ?_
          refine G_iconst d_X12_covers_57 ic_0 ?_
          refine G_sub (L' := []) [] rfl ?_
          refine G_callV (M' := mX12_isCovering) (R' := (Rm (d + 2))) (S := []) [.int (((61 : Int32) * (nI i1)) + 61), .int 0] 12 (w12_kd hw12_r0) cok12 rfl ok_X12_isCovering ml_X12_299 pn_X12_isCovering (ru_Rm (by decide)) (Nat.le_of_ble_eq_true rfl) d_X12_covers_58 ?_
          exact (hc_isCovering c0 c1 c2 c3)
        ·
          refine G_aload_n d_X12_covers_43 rfl 1 rfl ?_
          refine G_iconst d_X12_covers_44 ic_0 ?_
          refine G_iload_n d_X12_covers_45 rfl 0 rfl ?_
          refine G_sub (L' := []) [] rfl ?_
          refine G_callV (M' := mX12_isCovering) (R' := (Rm (d + 2))) (S := []) [.int 0, .int (((61 : Int32) * (nI i1)) + 61)] 12 (w12_kd hw12_r0) cok12 rfl ok_X12_isCovering ml_X12_299 pn_X12_isCovering (ru_Rm (by decide)) (Nat.le_of_ble_eq_true rfl) d_X12_covers_46 ?_
          exact (hc_isCovering_2 c0 c1 c2 c3)
      ·
        refine G_bipush d_X12_covers_28 bp_m2 ?_
        exact G_iret rfl rfl rfl d_X12_covers_30 (hK_2 c0 c1 c2)
    ·
      refine G_iconst d_X12_covers_17 ic_m1 ?_
      exact G_iret rfl rfl rfl d_X12_covers_18 (hK_3 c0 c1)
theorem b_X12_covers_49 {X : cX} {d : Nat} {μ : mM} {K : Option Value → mM → Prop} {v0 : Int32} (hK : v0 = 0 → K (some (.int 0)) μ) (hK_2 : ¬ v0 = 0 → K (some (.int 1)) μ) : G X (Rm (d + 3)) mX12_covers 49 [] [.int v0] μ 0 0 K := by
  refine G_if_eq (tgt := 68) d_X12_covers_49 rfl (fun c0 => ?_) (fun c0 => ?_)
  ·
    refine G_iconst d_X12_covers_68 ic_0 ?_
    exact G_iret rfl rfl rfl d_X12_covers_69 (hK c0)
  ·
    refine G_goto (tgt := 64) d_X12_covers_52 rfl ?_
    refine G_iconst d_X12_covers_64 ic_1 ?_
    refine G_goto (tgt := 69) d_X12_covers_65 rfl ?_
    exact G_iret rfl rfl rfl d_X12_covers_69 (hK_2 c0)
theorem b_X12_covers_61 {X : cX} {d : Nat} {μ : mM} {K : Option Value → mM → Prop} {v0 : Int32} (hK : v0 = 0 → K (some (.int 0)) μ) (hK_2 : ¬ v0 = 0 → K (some (.int 1)) μ) : G X (Rm (d + 3)) mX12_covers 61 [] [.int v0] μ 0 0 K := by
  refine G_if_eq (tgt := 68) d_X12_covers_61 rfl (fun c0 => ?_) (fun c0 => ?_)
  ·
    refine G_iconst d_X12_covers_68 ic_0 ?_
    exact G_iret rfl rfl rfl d_X12_covers_69 (hK c0)
  ·
    refine G_iconst d_X12_covers_64 ic_1 ?_
    refine G_goto (tgt := 69) d_X12_covers_65 rfl ?_
    exact G_iret rfl rfl rfl d_X12_covers_69 (hK_2 c0)
theorem d_X12_sheet_0 : decode cX12_sheet 0 = .ok (.iload_n 1, 1) := by decide +kernel
theorem d_X12_sheet_1 : decode cX12_sheet 1 = .ok (.i2l, 1) := by decide +kernel
theorem d_X12_sheet_2 : decode cX12_sheet 2 = .ok (.lconst 0, 1) := by decide +kernel
theorem d_X12_sheet_3 : decode cX12_sheet 3 = .ok (.ldc2_w 134, 3) := by decide +kernel
theorem d_X12_sheet_6 : decode cX12_sheet 6 = .ok (.invokestatic 61, 3) := by decide +kernel
theorem d_X12_sheet_9 : decode cX12_sheet 9 = .ok (.ifCond .eq 21, 3) := by decide +kernel
theorem d_X12_sheet_12 : decode cX12_sheet 12 = .ok (.iload_n 2, 1) := by decide +kernel
theorem d_X12_sheet_13 : decode cX12_sheet 13 = .ok (.i2l, 1) := by decide +kernel
theorem d_X12_sheet_14 : decode cX12_sheet 14 = .ok (.lconst 0, 1) := by decide +kernel
theorem d_X12_sheet_15 : decode cX12_sheet 15 = .ok (.ldc2_w 103, 3) := by decide +kernel
theorem d_X12_sheet_18 : decode cX12_sheet 18 = .ok (.invokestatic 61, 3) := by decide +kernel
theorem d_X12_sheet_21 : decode cX12_sheet 21 = .ok (.ifCond .eq 9, 3) := by decide +kernel
theorem d_X12_sheet_24 : decode cX12_sheet 24 = .ok (.iload_n 3, 1) := by decide +kernel
theorem d_X12_sheet_25 : decode cX12_sheet 25 = .ok (.bipush 40, 2) := by decide +kernel
theorem d_X12_sheet_27 : decode cX12_sheet 27 = .ok (.if_icmp .le 5, 3) := by decide +kernel
theorem d_X12_sheet_30 : decode cX12_sheet 30 = .ok (.iconst (-1), 1) := by decide +kernel
theorem d_X12_sheet_31 : decode cX12_sheet 31 = .ok (.ireturn, 1) := by decide +kernel
theorem d_X12_sheet_32 : decode cX12_sheet 32 = .ok (.iload_n 3, 1) := by decide +kernel
theorem d_X12_sheet_33 : decode cX12_sheet 33 = .ok (.ifCond .ge 6, 3) := by decide +kernel
theorem d_X12_sheet_36 : decode cX12_sheet 36 = .ok (.bipush (-14), 2) := by decide +kernel
theorem d_X12_sheet_38 : decode cX12_sheet 38 = .ok (.ireturn, 1) := by decide +kernel
theorem d_X12_sheet_39 : decode cX12_sheet 39 = .ok (.aload_n 0, 1) := by decide +kernel
theorem d_X12_sheet_40 : decode cX12_sheet 40 = .ok (.getfield 50, 3) := by decide +kernel
theorem d_X12_sheet_43 : decode cX12_sheet 43 = .ok (.iload_n 1, 1) := by decide +kernel
theorem d_X12_sheet_44 : decode cX12_sheet 44 = .ok (.iload_n 2, 1) := by decide +kernel
theorem d_X12_sheet_45 : decode cX12_sheet 45 = .ok (.iastore, 1) := by decide +kernel
theorem d_X12_sheet_46 : decode cX12_sheet 46 = .ok (.aload_n 0, 1) := by decide +kernel
theorem d_X12_sheet_47 : decode cX12_sheet 47 = .ok (.getfield 53, 3) := by decide +kernel
theorem d_X12_sheet_50 : decode cX12_sheet 50 = .ok (.iload_n 1, 1) := by decide +kernel
theorem d_X12_sheet_51 : decode cX12_sheet 51 = .ok (.iload_n 3, 1) := by decide +kernel
theorem d_X12_sheet_52 : decode cX12_sheet 52 = .ok (.iastore, 1) := by decide +kernel
theorem d_X12_sheet_53 : decode cX12_sheet 53 = .ok (.iconst 0, 1) := by decide +kernel
theorem d_X12_sheet_54 : decode cX12_sheet 54 = .ok (.istore 4, 2) := by decide +kernel
theorem d_X12_sheet_56 : decode cX12_sheet 56 = .ok (.iload 4, 2) := by decide +kernel
theorem d_X12_sheet_58 : decode cX12_sheet 58 = .ok (.bipush 40, 2) := by decide +kernel
theorem d_X12_sheet_60 : decode cX12_sheet 60 = .ok (.if_icmp .ge 22, 3) := by decide +kernel
theorem d_X12_sheet_63 : decode cX12_sheet 63 = .ok (.aload_n 0, 1) := by decide +kernel
theorem d_X12_sheet_64 : decode cX12_sheet 64 = .ok (.getfield 56, 3) := by decide +kernel
theorem d_X12_sheet_67 : decode cX12_sheet 67 = .ok (.bipush 40, 2) := by decide +kernel
theorem d_X12_sheet_69 : decode cX12_sheet 69 = .ok (.iload_n 1, 1) := by decide +kernel
theorem d_X12_sheet_70 : decode cX12_sheet 70 = .ok (.imul, 1) := by decide +kernel
theorem d_X12_sheet_71 : decode cX12_sheet 71 = .ok (.iload 4, 2) := by decide +kernel
theorem d_X12_sheet_73 : decode cX12_sheet 73 = .ok (.iadd, 1) := by decide +kernel
theorem d_X12_sheet_74 : decode cX12_sheet 74 = .ok (.iconst 0, 1) := by decide +kernel
theorem d_X12_sheet_75 : decode cX12_sheet 75 = .ok (.iastore, 1) := by decide +kernel
theorem d_X12_sheet_76 : decode cX12_sheet 76 = .ok (.iinc 4 1, 3) := by decide +kernel
theorem d_X12_sheet_79 : decode cX12_sheet 79 = .ok (.goto (-23), 3) := by decide +kernel
theorem d_X12_sheet_82 : decode cX12_sheet 82 = .ok (.iconst 1, 1) := by decide +kernel
theorem d_X12_sheet_83 : decode cX12_sheet 83 = .ok (.ireturn, 1) := by decide +kernel
theorem b_X12_sheet_0 {X : cX} {d : Nat} {μ : mM} {K : Option Value → mM → Prop} {r0 : Nat} {i1 : Nat} {l2 : Int32} {l3 : Int32} (hK : (e_X12_in μ ((nI i1).toInt64) 0 3) = 0 → K (some (.int (-1))) μ) (hK_2 : ¬ (e_X12_in μ ((nI i1).toInt64) 0 3) = 0 → (e_X12_in μ l2.toInt64 0 2) = 0 → K (some (.int (-1))) μ) (hw12_r0 : WF12 μ r0) (hb : ¬ (e_X12_in μ ((nI i1).toInt64) 0 3) = 0 → ¬ (e_X12_in μ l2.toInt64 0 2) = 0 → l3 ≤ (40 : Int32) → 0 ≤ l3 → i1 < 4) (h : ¬ (e_X12_in μ ((nI i1).toInt64) 0 3) = 0 → ¬ (e_X12_in μ l2.toInt64 0 2) = 0 → l3 ≤ (40 : Int32) → 0 ≤ l3 → G X (Rm (d + 1)) mX12_sheet 56 [(0, .ref r0), (1, .int (nI i1)), (4, .int (nI 0))] [] (wi (wi μ (r0 + 14) i1 l2) (r0 + 15) i1 l3) 0 0 K) (hK_3 : ¬ (e_X12_in μ ((nI i1).toInt64) 0 3) = 0 → ¬ (e_X12_in μ l2.toInt64 0 2) = 0 → l3 ≤ (40 : Int32) → ¬ 0 ≤ l3 → K (some (.int (-14))) μ) (hK_4 : ¬ (e_X12_in μ ((nI i1).toInt64) 0 3) = 0 → ¬ (e_X12_in μ l2.toInt64 0 2) = 0 → ¬ l3 ≤ (40 : Int32) → K (some (.int (-1))) μ) : G X (Rm (d + 1)) mX12_sheet 0 [(0, .ref r0), (1, .int (nI i1)), (2, .int l2), (3, .int l3)] [] μ 0 0 K := by
  refine G_iload_n d_X12_sheet_0 rfl 1 rfl ?_
  refine G_i2l (v := (nI i1).toInt64) d_X12_sheet_1 rfl ?_
  refine G_lconst (v := 0) d_X12_sheet_2 rfl ?_
  refine G_ldc2 kl_X12_134 d_X12_sheet_3 ?_
  refine G_callS (M' := mX12_in) (R' := (Rm d)) (S := []) [.long ((nI i1).toInt64), .long 0, .long 3] ok_X12_in ml_X12_61 pn_X12_in (ru_Rm (by decide)) (Nat.le_of_ble_eq_true rfl) d_X12_sheet_6 (s_X12_in (μ := μ)   ?_)
  show G X (Rm (d + 1)) mX12_sheet 9 [(0, .ref r0), (1, .int (nI i1)), (2, .int l2), (3, .int l3)] [.int (e_X12_in μ ((nI i1).toInt64) 0 3)] μ 0 0 K
  refine G_if_eq (tgt := 30) d_X12_sheet_9 rfl (fun c0 => ?_) (fun c0 => ?_)
  ·
    refine G_iconst d_X12_sheet_30 ic_m1 ?_
    exact G_iret rfl rfl rfl d_X12_sheet_31 (hK c0)
  ·
    refine G_iload_n d_X12_sheet_12 rfl 2 rfl ?_
    refine G_i2l (v := l2.toInt64) d_X12_sheet_13 rfl ?_
    refine G_lconst (v := 0) d_X12_sheet_14 rfl ?_
    refine G_ldc2 kl_X12_103 d_X12_sheet_15 ?_
    refine G_callS (M' := mX12_in) (R' := (Rm d)) (S := []) [.long l2.toInt64, .long 0, .long 2] ok_X12_in ml_X12_61 pn_X12_in (ru_Rm (by decide)) (Nat.le_of_ble_eq_true rfl) d_X12_sheet_18 (s_X12_in (μ := μ)   ?_)
    show G X (Rm (d + 1)) mX12_sheet 21 [(0, .ref r0), (1, .int (nI i1)), (2, .int l2), (3, .int l3)] [.int (e_X12_in μ l2.toInt64 0 2)] μ 0 0 K
    refine G_if_eq (tgt := 30) d_X12_sheet_21 rfl (fun c1 => ?_) (fun c1 => ?_)
    ·
      refine G_iconst d_X12_sheet_30 ic_m1 ?_
      exact G_iret rfl rfl rfl d_X12_sheet_31 (hK_2 c0 c1)
    ·
      refine G_iload_n d_X12_sheet_24 rfl 3 rfl ?_
      refine G_bipush d_X12_sheet_25 bp_40 ?_
      refine G_icmp_le (tgt := 32) d_X12_sheet_27 rfl (fun c2 => ?_) (fun c2 => ?_)
      ·
        refine G_iload_n d_X12_sheet_32 rfl 3 rfl ?_
        refine G_if_ge (tgt := 39) d_X12_sheet_33 rfl (fun c3 => ?_) (fun c3 => ?_)
        ·
          refine G_aload_n d_X12_sheet_39 rfl 0 rfl ?_
          refine G_getR (r := r0 + 14) 12 25 (w12_kd hw12_r0) (w12_f25 hw12_r0) cok12 (by decide) rfl fl_X12_50 d_X12_sheet_40 ?_
          refine G_iload_n d_X12_sheet_43 rfl 1 rfl ?_
          refine G_iload_n d_X12_sheet_44 rfl 2 rfl ?_
          refine G_iast i1 (w12_k25 hw12_r0) rfl (hb c0 c1 c2 c3) d_X12_sheet_45 ?_
          refine G_aload_n d_X12_sheet_46 rfl 0 rfl ?_
          refine G_getR (r := r0 + 15) 12 26 (w12_kd hw12_r0) (w12_f26 hw12_r0) cok12 (by decide) rfl fl_X12_53 d_X12_sheet_47 ?_
          refine G_iload_n d_X12_sheet_50 rfl 1 rfl ?_
          refine G_iload_n d_X12_sheet_51 rfl 3 rfl ?_
          refine G_iast i1 (w12_k26 hw12_r0) rfl (hb c0 c1 c2 c3) d_X12_sheet_52 ?_
          refine G_iconst d_X12_sheet_53 ic_0 ?_
          refine G_istore (L' := [(4, .int (nI 0)), (0, .ref r0), (1, .int (nI i1)), (2, .int l2), (3, .int l3)]) d_X12_sheet_54 (by decide) rfl ?_
          refine G_sub (L' := [(0, .ref r0), (1, .int (nI i1)), (4, .int (nI 0))]) [1, 2, 0] rfl ?_
          exact (h c0 c1 c2 c3)
        ·
          refine G_bipush d_X12_sheet_36 bp_m14 ?_
          exact G_iret rfl rfl rfl d_X12_sheet_38 (hK_3 c0 c1 c2 c3)
      ·
        refine G_iconst d_X12_sheet_30 ic_m1 ?_
        exact G_iret rfl rfl rfl d_X12_sheet_31 (hK_4 c0 c1 c2)
theorem b_X12_sheet_56 {X : cX} {d : Nat} {μ : mM} {K : Option Value → mM → Prop} {r0 : Nat} {i1 : Nat} {i4 : Nat} (hK : (40 : Int32) ≤ (nI i4) → K (some (.int 1)) μ) (hw12_r0 : WF12 μ r0) (hb : ¬ (40 : Int32) ≤ (nI i4) → ((40 * i1) + i4) < 160) (h : ¬ (40 : Int32) ≤ (nI i4) → G X (Rm (d + 1)) mX12_sheet 56 [(0, .ref r0), (1, .int (nI i1)), (4, .int (nI (i4 + 1)))] [] (wi μ (r0 + 16) ((40 * i1) + i4) 0) 0 0 K) : G X (Rm (d + 1)) mX12_sheet 56 [(0, .ref r0), (1, .int (nI i1)), (4, .int (nI i4))] [] μ 0 0 K := by
  refine G_iload d_X12_sheet_56 2 rfl ?_
  refine G_bipush d_X12_sheet_58 bp_40 ?_
  refine G_icmp_ge (tgt := 82) d_X12_sheet_60 rfl (fun c0 => ?_) (fun c0 => ?_)
  ·
    refine G_iconst d_X12_sheet_82 ic_1 ?_
    exact G_iret rfl rfl rfl d_X12_sheet_83 (hK c0)
  ·
    refine G_aload_n d_X12_sheet_63 rfl 0 rfl ?_
    refine G_getR (r := r0 + 16) 12 27 (w12_kd hw12_r0) (w12_f27 hw12_r0) cok12 (by decide) rfl fl_X12_56 d_X12_sheet_64 ?_
    refine G_bipush d_X12_sheet_67 bp_40 ?_
    refine G_iload_n d_X12_sheet_69 rfl 1 rfl ?_
    refine G_imul d_X12_sheet_70 ?_
    refine G_iload d_X12_sheet_71 2 rfl ?_
    refine G_iadd d_X12_sheet_73 ?_
    refine G_iconst d_X12_sheet_74 ic_0 ?_
    refine G_iast ((40 * i1) + i4) (w12_k27 hw12_r0) (nadd (nmul rfl rfl) rfl) (hb c0) d_X12_sheet_75 ?_
    refine G_iinc (L' := [(4, .int (nI (i4 + 1))), (0, .ref r0), (1, .int (nI i1))]) d_X12_sheet_76 2 rfl (inc1 i4) (by decide) rfl ?_
    refine G_goto (tgt := 56) d_X12_sheet_79 rfl ?_
    refine G_sub (L' := [(0, .ref r0), (1, .int (nI i1)), (4, .int (nI (i4 + 1)))]) [1, 2, 0] rfl ?_
    exact (h c0)
theorem d_X12_lay_0 : decode cX12_lay 0 = .ok (.iload_n 1, 1) := by decide +kernel
theorem d_X12_lay_1 : decode cX12_lay 1 = .ok (.i2l, 1) := by decide +kernel
theorem d_X12_lay_2 : decode cX12_lay 2 = .ok (.lconst 0, 1) := by decide +kernel
theorem d_X12_lay_3 : decode cX12_lay 3 = .ok (.ldc2_w 134, 3) := by decide +kernel
theorem d_X12_lay_6 : decode cX12_lay 6 = .ok (.invokestatic 61, 3) := by decide +kernel
theorem d_X12_lay_9 : decode cX12_lay 9 = .ok (.ifCond .ne 5, 3) := by decide +kernel
theorem d_X12_lay_12 : decode cX12_lay 12 = .ok (.iconst (-1), 1) := by decide +kernel
theorem d_X12_lay_13 : decode cX12_lay 13 = .ok (.ireturn, 1) := by decide +kernel
theorem d_X12_lay_14 : decode cX12_lay 14 = .ok (.aload_n 0, 1) := by decide +kernel
theorem d_X12_lay_15 : decode cX12_lay 15 = .ok (.getfield 50, 3) := by decide +kernel
theorem d_X12_lay_18 : decode cX12_lay 18 = .ok (.iload_n 1, 1) := by decide +kernel
theorem d_X12_lay_19 : decode cX12_lay 19 = .ok (.iaload, 1) := by decide +kernel
theorem d_X12_lay_20 : decode cX12_lay 20 = .ok (.bipush (-4), 2) := by decide +kernel
theorem d_X12_lay_22 : decode cX12_lay 22 = .ok (.if_icmp .ne 6, 3) := by decide +kernel
theorem d_X12_lay_25 : decode cX12_lay 25 = .ok (.bipush (-11), 2) := by decide +kernel
theorem d_X12_lay_27 : decode cX12_lay 27 = .ok (.ireturn, 1) := by decide +kernel
theorem d_X12_lay_28 : decode cX12_lay 28 = .ok (.iload_n 2, 1) := by decide +kernel
theorem d_X12_lay_29 : decode cX12_lay 29 = .ok (.i2l, 1) := by decide +kernel
theorem d_X12_lay_30 : decode cX12_lay 30 = .ok (.lconst 0, 1) := by decide +kernel
theorem d_X12_lay_31 : decode cX12_lay 31 = .ok (.aload_n 0, 1) := by decide +kernel
theorem d_X12_lay_32 : decode cX12_lay 32 = .ok (.getfield 53, 3) := by decide +kernel
theorem d_X12_lay_35 : decode cX12_lay 35 = .ok (.iload_n 1, 1) := by decide +kernel
theorem d_X12_lay_36 : decode cX12_lay 36 = .ok (.iaload, 1) := by decide +kernel
theorem d_X12_lay_37 : decode cX12_lay 37 = .ok (.iconst 1, 1) := by decide +kernel
theorem d_X12_lay_38 : decode cX12_lay 38 = .ok (.isub, 1) := by decide +kernel
theorem d_X12_lay_39 : decode cX12_lay 39 = .ok (.i2l, 1) := by decide +kernel
theorem d_X12_lay_40 : decode cX12_lay 40 = .ok (.invokestatic 61, 3) := by decide +kernel
theorem d_X12_lay_43 : decode cX12_lay 43 = .ok (.ifCond .ne 6, 3) := by decide +kernel
theorem d_X12_lay_46 : decode cX12_lay 46 = .ok (.bipush (-12), 2) := by decide +kernel
theorem d_X12_lay_48 : decode cX12_lay 48 = .ok (.ireturn, 1) := by decide +kernel
theorem d_X12_lay_49 : decode cX12_lay 49 = .ok (.aload_n 0, 1) := by decide +kernel
theorem d_X12_lay_50 : decode cX12_lay 50 = .ok (.getfield 56, 3) := by decide +kernel
theorem d_X12_lay_53 : decode cX12_lay 53 = .ok (.bipush 40, 2) := by decide +kernel
theorem d_X12_lay_55 : decode cX12_lay 55 = .ok (.iload_n 1, 1) := by decide +kernel
theorem d_X12_lay_56 : decode cX12_lay 56 = .ok (.imul, 1) := by decide +kernel
theorem d_X12_lay_57 : decode cX12_lay 57 = .ok (.iload_n 2, 1) := by decide +kernel
theorem d_X12_lay_58 : decode cX12_lay 58 = .ok (.iadd, 1) := by decide +kernel
theorem d_X12_lay_59 : decode cX12_lay 59 = .ok (.aload_n 0, 1) := by decide +kernel
theorem d_X12_lay_60 : decode cX12_lay 60 = .ok (.getfield 50, 3) := by decide +kernel
theorem d_X12_lay_63 : decode cX12_lay 63 = .ok (.iload_n 1, 1) := by decide +kernel
theorem d_X12_lay_64 : decode cX12_lay 64 = .ok (.iaload, 1) := by decide +kernel
theorem d_X12_lay_65 : decode cX12_lay 65 = .ok (.ifCond .ne 13, 3) := by decide +kernel
theorem d_X12_lay_68 : decode cX12_lay 68 = .ok (.iload_n 3, 1) := by decide +kernel
theorem d_X12_lay_69 : decode cX12_lay 69 = .ok (.bipush 24, 2) := by decide +kernel
theorem d_X12_lay_71 : decode cX12_lay 71 = .ok (.ishl, 1) := by decide +kernel
theorem d_X12_lay_72 : decode cX12_lay 72 = .ok (.bipush 24, 2) := by decide +kernel
theorem d_X12_lay_74 : decode cX12_lay 74 = .ok (.ishr, 1) := by decide +kernel
theorem d_X12_lay_75 : decode cX12_lay 75 = .ok (.goto 24, 3) := by decide +kernel
theorem d_X12_lay_78 : decode cX12_lay 78 = .ok (.aload_n 0, 1) := by decide +kernel
theorem d_X12_lay_79 : decode cX12_lay 79 = .ok (.getfield 50, 3) := by decide +kernel
theorem d_X12_lay_82 : decode cX12_lay 82 = .ok (.iload_n 1, 1) := by decide +kernel
theorem d_X12_lay_83 : decode cX12_lay 83 = .ok (.iaload, 1) := by decide +kernel
theorem d_X12_lay_84 : decode cX12_lay 84 = .ok (.iconst 1, 1) := by decide +kernel
theorem d_X12_lay_85 : decode cX12_lay 85 = .ok (.if_icmp .ne 13, 3) := by decide +kernel
theorem d_X12_lay_88 : decode cX12_lay 88 = .ok (.iload_n 3, 1) := by decide +kernel
theorem d_X12_lay_89 : decode cX12_lay 89 = .ok (.bipush 16, 2) := by decide +kernel
theorem d_X12_lay_91 : decode cX12_lay 91 = .ok (.ishl, 1) := by decide +kernel
theorem d_X12_lay_92 : decode cX12_lay 92 = .ok (.bipush 16, 2) := by decide +kernel
theorem d_X12_lay_94 : decode cX12_lay 94 = .ok (.ishr, 1) := by decide +kernel
theorem d_X12_lay_95 : decode cX12_lay 95 = .ok (.goto 4, 3) := by decide +kernel
theorem d_X12_lay_98 : decode cX12_lay 98 = .ok (.iload_n 3, 1) := by decide +kernel
theorem d_X12_lay_99 : decode cX12_lay 99 = .ok (.iastore, 1) := by decide +kernel
theorem d_X12_lay_100 : decode cX12_lay 100 = .ok (.iconst 1, 1) := by decide +kernel
theorem d_X12_lay_101 : decode cX12_lay 101 = .ok (.ireturn, 1) := by decide +kernel
theorem b_X12_lay_0 {X : cX} {d : Nat} {μ : mM} {K : Option Value → mM → Prop} {r0 : Nat} {i1 : Nat} {i2 : Nat} {l3 : Int32} (hw12_r0 : WF12 μ r0) (hb : ¬ (e_X12_in μ ((nI i1).toInt64) 0 3) = 0 → i1 < 4) (hb_2 : ¬ (e_X12_in μ ((nI i1).toInt64) 0 3) = 0 → ¬ (iv μ (r0 + 14) i1) = ((-4) : Int32) → i1 < 4) (hb_3 : ¬ (e_X12_in μ ((nI i1).toInt64) 0 3) = 0 → ¬ (iv μ (r0 + 14) i1) = ((-4) : Int32) → ¬ (e_X12_in μ ((nI i2).toInt64) 0 (((iv μ (r0 + 15) i1) - 1).toInt64)) = 0 → i1 < 4) (hb_4 : ¬ (e_X12_in μ ((nI i1).toInt64) 0 3) = 0 → ¬ (iv μ (r0 + 14) i1) = ((-4) : Int32) → ¬ (e_X12_in μ ((nI i2).toInt64) 0 (((iv μ (r0 + 15) i1) - 1).toInt64)) = 0 → ¬ (iv μ (r0 + 14) i1) = 0 → i1 < 4) (hb_5 : ¬ (e_X12_in μ ((nI i1).toInt64) 0 3) = 0 → ¬ (iv μ (r0 + 14) i1) = ((-4) : Int32) → ¬ (e_X12_in μ ((nI i2).toInt64) 0 (((iv μ (r0 + 15) i1) - 1).toInt64)) = 0 → ¬ (iv μ (r0 + 14) i1) = 0 → ¬ (iv μ (r0 + 14) i1) = (1 : Int32) → ((40 * i1) + i2) < 160) (hK : ¬ (e_X12_in μ ((nI i1).toInt64) 0 3) = 0 → ¬ (iv μ (r0 + 14) i1) = ((-4) : Int32) → ¬ (e_X12_in μ ((nI i2).toInt64) 0 (((iv μ (r0 + 15) i1) - 1).toInt64)) = 0 → ¬ (iv μ (r0 + 14) i1) = 0 → ¬ (iv μ (r0 + 14) i1) = (1 : Int32) → K (some (.int 1)) (wi μ (r0 + 16) ((40 * i1) + i2) l3)) (hb_6 : ¬ (e_X12_in μ ((nI i1).toInt64) 0 3) = 0 → ¬ (iv μ (r0 + 14) i1) = ((-4) : Int32) → ¬ (e_X12_in μ ((nI i2).toInt64) 0 (((iv μ (r0 + 15) i1) - 1).toInt64)) = 0 → ¬ (iv μ (r0 + 14) i1) = 0 → (iv μ (r0 + 14) i1) = (1 : Int32) → ((40 * i1) + i2) < 160) (hK_2 : ¬ (e_X12_in μ ((nI i1).toInt64) 0 3) = 0 → ¬ (iv μ (r0 + 14) i1) = ((-4) : Int32) → ¬ (e_X12_in μ ((nI i2).toInt64) 0 (((iv μ (r0 + 15) i1) - 1).toInt64)) = 0 → ¬ (iv μ (r0 + 14) i1) = 0 → (iv μ (r0 + 14) i1) = (1 : Int32) → K (some (.int 1)) (wi μ (r0 + 16) ((40 * i1) + i2) ((l3 <<< ((16 : Int32) &&& 31)) >>> ((16 : Int32) &&& 31)))) (hb_7 : ¬ (e_X12_in μ ((nI i1).toInt64) 0 3) = 0 → ¬ (iv μ (r0 + 14) i1) = ((-4) : Int32) → ¬ (e_X12_in μ ((nI i2).toInt64) 0 (((iv μ (r0 + 15) i1) - 1).toInt64)) = 0 → (iv μ (r0 + 14) i1) = 0 → ((40 * i1) + i2) < 160) (hK_3 : ¬ (e_X12_in μ ((nI i1).toInt64) 0 3) = 0 → ¬ (iv μ (r0 + 14) i1) = ((-4) : Int32) → ¬ (e_X12_in μ ((nI i2).toInt64) 0 (((iv μ (r0 + 15) i1) - 1).toInt64)) = 0 → (iv μ (r0 + 14) i1) = 0 → K (some (.int 1)) (wi μ (r0 + 16) ((40 * i1) + i2) ((l3 <<< ((24 : Int32) &&& 31)) >>> ((24 : Int32) &&& 31)))) (hK_4 : ¬ (e_X12_in μ ((nI i1).toInt64) 0 3) = 0 → ¬ (iv μ (r0 + 14) i1) = ((-4) : Int32) → (e_X12_in μ ((nI i2).toInt64) 0 (((iv μ (r0 + 15) i1) - 1).toInt64)) = 0 → K (some (.int (-12))) μ) (hK_5 : ¬ (e_X12_in μ ((nI i1).toInt64) 0 3) = 0 → (iv μ (r0 + 14) i1) = ((-4) : Int32) → K (some (.int (-11))) μ) (hK_6 : (e_X12_in μ ((nI i1).toInt64) 0 3) = 0 → K (some (.int (-1))) μ) : G X (Rm (d + 1)) mX12_lay 0 [(0, .ref r0), (1, .int (nI i1)), (2, .int (nI i2)), (3, .int l3)] [] μ 0 0 K := by
  refine G_iload_n d_X12_lay_0 rfl 1 rfl ?_
  refine G_i2l (v := (nI i1).toInt64) d_X12_lay_1 rfl ?_
  refine G_lconst (v := 0) d_X12_lay_2 rfl ?_
  refine G_ldc2 kl_X12_134 d_X12_lay_3 ?_
  refine G_callS (M' := mX12_in) (R' := (Rm d)) (S := []) [.long ((nI i1).toInt64), .long 0, .long 3] ok_X12_in ml_X12_61 pn_X12_in (ru_Rm (by decide)) (Nat.le_of_ble_eq_true rfl) d_X12_lay_6 (s_X12_in (μ := μ)   ?_)
  show G X (Rm (d + 1)) mX12_lay 9 [(0, .ref r0), (1, .int (nI i1)), (2, .int (nI i2)), (3, .int l3)] [.int (e_X12_in μ ((nI i1).toInt64) 0 3)] μ 0 0 K
  refine G_if_ne (tgt := 14) d_X12_lay_9 rfl (fun c0 => ?_) (fun c0 => ?_)
  ·
    refine G_aload_n d_X12_lay_14 rfl 0 rfl ?_
    refine G_getR (r := r0 + 14) 12 25 (w12_kd hw12_r0) (w12_f25 hw12_r0) cok12 (by decide) rfl fl_X12_50 d_X12_lay_15 ?_
    refine G_iload_n d_X12_lay_18 rfl 1 rfl ?_
    refine G_iald i1 (w12_k25 hw12_r0) rfl (hb c0) d_X12_lay_19 ?_
    refine G_bipush d_X12_lay_20 bp_m4 ?_
    refine G_icmp_ne (tgt := 28) d_X12_lay_22 rfl (fun c1 => ?_) (fun c1 => ?_)
    ·
      refine G_iload_n d_X12_lay_28 rfl 2 rfl ?_
      refine G_i2l (v := (nI i2).toInt64) d_X12_lay_29 rfl ?_
      refine G_lconst (v := 0) d_X12_lay_30 rfl ?_
      refine G_aload_n d_X12_lay_31 rfl 0 rfl ?_
      refine G_getR (r := r0 + 15) 12 26 (w12_kd hw12_r0) (w12_f26 hw12_r0) cok12 (by decide) rfl fl_X12_53 d_X12_lay_32 ?_
      refine G_iload_n d_X12_lay_35 rfl 1 rfl ?_
      refine G_iald i1 (w12_k26 hw12_r0) rfl (hb_2 c0 c1) d_X12_lay_36 ?_
      refine G_iconst d_X12_lay_37 ic_1 ?_
      refine G_isub d_X12_lay_38 ?_
      refine G_i2l (v := ((iv μ (r0 + 15) i1) - 1).toInt64) d_X12_lay_39 rfl ?_
      refine G_callS (M' := mX12_in) (R' := (Rm d)) (S := []) [.long ((nI i2).toInt64), .long 0, .long (((iv μ (r0 + 15) i1) - 1).toInt64)] ok_X12_in ml_X12_61 pn_X12_in (ru_Rm (by decide)) (Nat.le_of_ble_eq_true rfl) d_X12_lay_40 (s_X12_in (μ := μ)   ?_)
      show G X (Rm (d + 1)) mX12_lay 43 [(0, .ref r0), (1, .int (nI i1)), (2, .int (nI i2)), (3, .int l3)] [.int (e_X12_in μ ((nI i2).toInt64) 0 (((iv μ (r0 + 15) i1) - 1).toInt64))] μ 0 0 K
      refine G_if_ne (tgt := 49) d_X12_lay_43 rfl (fun c2 => ?_) (fun c2 => ?_)
      ·
        refine G_aload_n d_X12_lay_49 rfl 0 rfl ?_
        refine G_getR (r := r0 + 16) 12 27 (w12_kd hw12_r0) (w12_f27 hw12_r0) cok12 (by decide) rfl fl_X12_56 d_X12_lay_50 ?_
        refine G_bipush d_X12_lay_53 bp_40 ?_
        refine G_iload_n d_X12_lay_55 rfl 1 rfl ?_
        refine G_imul d_X12_lay_56 ?_
        refine G_iload_n d_X12_lay_57 rfl 2 rfl ?_
        refine G_iadd d_X12_lay_58 ?_
        refine G_aload_n d_X12_lay_59 rfl 0 rfl ?_
        refine G_getR (r := r0 + 14) 12 25 (w12_kd hw12_r0) (w12_f25 hw12_r0) cok12 (by decide) rfl fl_X12_50 d_X12_lay_60 ?_
        refine G_iload_n d_X12_lay_63 rfl 1 rfl ?_
        refine G_iald i1 (w12_k25 hw12_r0) rfl (hb_3 c0 c1 c2) d_X12_lay_64 ?_
        refine G_if_ne (tgt := 78) d_X12_lay_65 rfl (fun c3 => ?_) (fun c3 => ?_)
        ·
          refine G_aload_n d_X12_lay_78 rfl 0 rfl ?_
          refine G_getR (r := r0 + 14) 12 25 (w12_kd hw12_r0) (w12_f25 hw12_r0) cok12 (by decide) rfl fl_X12_50 d_X12_lay_79 ?_
          refine G_iload_n d_X12_lay_82 rfl 1 rfl ?_
          refine G_iald i1 (w12_k25 hw12_r0) rfl (hb_4 c0 c1 c2 c3) d_X12_lay_83 ?_
          refine G_iconst d_X12_lay_84 ic_1 ?_
          refine G_icmp_ne (tgt := 98) d_X12_lay_85 rfl (fun c4 => ?_) (fun c4 => ?_)
          ·
            refine G_iload_n d_X12_lay_98 rfl 3 rfl ?_
            refine G_iast ((40 * i1) + i2) (w12_k27 hw12_r0) (nadd (nmul rfl rfl) rfl) (hb_5 c0 c1 c2 c3 c4) d_X12_lay_99 ?_
            refine G_iconst d_X12_lay_100 ic_1 ?_
            exact G_iret rfl rfl rfl d_X12_lay_101 (hK c0 c1 c2 c3 c4)
          ·
            refine G_iload_n d_X12_lay_88 rfl 3 rfl ?_
            refine G_bipush d_X12_lay_89 bp_16 ?_
            refine G_ishl d_X12_lay_91 ?_
            refine G_bipush d_X12_lay_92 bp_16 ?_
            refine G_ishr d_X12_lay_94 ?_
            refine G_goto (tgt := 99) d_X12_lay_95 rfl ?_
            refine G_iast ((40 * i1) + i2) (w12_k27 hw12_r0) (nadd (nmul rfl rfl) rfl) (hb_6 c0 c1 c2 c3 c4) d_X12_lay_99 ?_
            refine G_iconst d_X12_lay_100 ic_1 ?_
            exact G_iret rfl rfl rfl d_X12_lay_101 (hK_2 c0 c1 c2 c3 c4)
        ·
          refine G_iload_n d_X12_lay_68 rfl 3 rfl ?_
          refine G_bipush d_X12_lay_69 bp_24 ?_
          refine G_ishl d_X12_lay_71 ?_
          refine G_bipush d_X12_lay_72 bp_24 ?_
          refine G_ishr d_X12_lay_74 ?_
          refine G_goto (tgt := 99) d_X12_lay_75 rfl ?_
          refine G_iast ((40 * i1) + i2) (w12_k27 hw12_r0) (nadd (nmul rfl rfl) rfl) (hb_7 c0 c1 c2 c3) d_X12_lay_99 ?_
          refine G_iconst d_X12_lay_100 ic_1 ?_
          exact G_iret rfl rfl rfl d_X12_lay_101 (hK_3 c0 c1 c2 c3)
      ·
        refine G_bipush d_X12_lay_46 bp_m12 ?_
        exact G_iret rfl rfl rfl d_X12_lay_48 (hK_4 c0 c1 c2)
    ·
      refine G_bipush d_X12_lay_25 bp_m11 ?_
      exact G_iret rfl rfl rfl d_X12_lay_27 (hK_5 c0 c1)
  ·
    refine G_iconst d_X12_lay_12 ic_m1 ?_
    exact G_iret rfl rfl rfl d_X12_lay_13 (hK_6 c0)
theorem d_X12_read_0 : decode cX12_read 0 = .ok (.iload_n 1, 1) := by decide +kernel
theorem d_X12_read_1 : decode cX12_read 1 = .ok (.i2l, 1) := by decide +kernel
theorem d_X12_read_2 : decode cX12_read 2 = .ok (.lconst 0, 1) := by decide +kernel
theorem d_X12_read_3 : decode cX12_read 3 = .ok (.ldc2_w 134, 3) := by decide +kernel
theorem d_X12_read_6 : decode cX12_read 6 = .ok (.invokestatic 61, 3) := by decide +kernel
theorem d_X12_read_9 : decode cX12_read 9 = .ok (.ifCond .eq 28, 3) := by decide +kernel
theorem d_X12_read_12 : decode cX12_read 12 = .ok (.iload_n 2, 1) := by decide +kernel
theorem d_X12_read_13 : decode cX12_read 13 = .ok (.i2l, 1) := by decide +kernel
theorem d_X12_read_14 : decode cX12_read 14 = .ok (.lconst 0, 1) := by decide +kernel
theorem d_X12_read_15 : decode cX12_read 15 = .ok (.ldc2_w 103, 3) := by decide +kernel
theorem d_X12_read_18 : decode cX12_read 18 = .ok (.invokestatic 61, 3) := by decide +kernel
theorem d_X12_read_21 : decode cX12_read 21 = .ok (.ifCond .eq 16, 3) := by decide +kernel
theorem d_X12_read_24 : decode cX12_read 24 = .ok (.iload 4, 2) := by decide +kernel
theorem d_X12_read_26 : decode cX12_read 26 = .ok (.i2l, 1) := by decide +kernel
theorem d_X12_read_27 : decode cX12_read 27 = .ok (.lconst 0, 1) := by decide +kernel
theorem d_X12_read_28 : decode cX12_read 28 = .ok (.ldc2_w 302, 3) := by decide +kernel
theorem d_X12_read_31 : decode cX12_read 31 = .ok (.invokestatic 61, 3) := by decide +kernel
theorem d_X12_read_34 : decode cX12_read 34 = .ok (.ifCond .ne 5, 3) := by decide +kernel
theorem d_X12_read_37 : decode cX12_read 37 = .ok (.iconst (-1), 1) := by decide +kernel
theorem d_X12_read_38 : decode cX12_read 38 = .ok (.ireturn, 1) := by decide +kernel
theorem d_X12_read_39 : decode cX12_read 39 = .ok (.aload_n 0, 1) := by decide +kernel
theorem d_X12_read_40 : decode cX12_read 40 = .ok (.iconst 0, 1) := by decide +kernel
theorem d_X12_read_41 : decode cX12_read 41 = .ok (.sipush 244, 3) := by decide +kernel
theorem d_X12_read_44 : decode cX12_read 44 = .ok (.invokevirtual 162, 3) := by decide +kernel
theorem d_X12_read_47 : decode cX12_read 47 = .ok (.iconst 0, 1) := by decide +kernel
theorem d_X12_read_48 : decode cX12_read 48 = .ok (.istore 5, 2) := by decide +kernel
theorem d_X12_read_50 : decode cX12_read 50 = .ok (.iconst 0, 1) := by decide +kernel
theorem d_X12_read_51 : decode cX12_read 51 = .ok (.istore 6, 2) := by decide +kernel
theorem d_X12_read_53 : decode cX12_read 53 = .ok (.iconst 0, 1) := by decide +kernel
theorem d_X12_read_54 : decode cX12_read 54 = .ok (.istore 7, 2) := by decide +kernel
theorem d_X12_read_56 : decode cX12_read 56 = .ok (.iload 7, 2) := by decide +kernel
theorem d_X12_read_58 : decode cX12_read 58 = .ok (.iconst 3, 1) := by decide +kernel
theorem d_X12_read_59 : decode cX12_read 59 = .ok (.iload 4, 2) := by decide +kernel
theorem d_X12_read_61 : decode cX12_read 61 = .ok (.imul, 1) := by decide +kernel
theorem d_X12_read_62 : decode cX12_read 62 = .ok (.if_icmp .ge 148, 3) := by decide +kernel
theorem d_X12_read_65 : decode cX12_read 65 = .ok (.iload 5, 2) := by decide +kernel
theorem d_X12_read_67 : decode cX12_read 67 = .ok (.ifCond .ne 143, 3) := by decide +kernel
theorem d_X12_read_70 : decode cX12_read 70 = .ok (.iload_n 3, 1) := by decide +kernel
theorem d_X12_read_71 : decode cX12_read 71 = .ok (.i2l, 1) := by decide +kernel
theorem d_X12_read_72 : decode cX12_read 72 = .ok (.iload 7, 2) := by decide +kernel
theorem d_X12_read_74 : decode cX12_read 74 = .ok (.i2l, 1) := by decide +kernel
theorem d_X12_read_75 : decode cX12_read 75 = .ok (.ladd, 1) := by decide +kernel
theorem d_X12_read_76 : decode cX12_read 76 = .ok (.lstore 8, 2) := by decide +kernel
theorem d_X12_read_78 : decode cX12_read 78 = .ok (.aload_n 0, 1) := by decide +kernel
theorem d_X12_read_79 : decode cX12_read 79 = .ok (.getfield 50, 3) := by decide +kernel
theorem d_X12_read_82 : decode cX12_read 82 = .ok (.iload_n 1, 1) := by decide +kernel
theorem d_X12_read_83 : decode cX12_read 83 = .ok (.iaload, 1) := by decide +kernel
theorem d_X12_read_84 : decode cX12_read 84 = .ok (.bipush (-4), 2) := by decide +kernel
theorem d_X12_read_86 : decode cX12_read 86 = .ok (.if_icmp .ne 7, 3) := by decide +kernel
theorem d_X12_read_89 : decode cX12_read 89 = .ok (.iconst 1, 1) := by decide +kernel
theorem d_X12_read_90 : decode cX12_read 90 = .ok (.goto 40, 3) := by decide +kernel
theorem d_X12_read_93 : decode cX12_read 93 = .ok (.aload_n 0, 1) := by decide +kernel
theorem d_X12_read_94 : decode cX12_read 94 = .ok (.getfield 50, 3) := by decide +kernel
theorem d_X12_read_97 : decode cX12_read 97 = .ok (.iload_n 1, 1) := by decide +kernel
theorem d_X12_read_98 : decode cX12_read 98 = .ok (.iaload, 1) := by decide +kernel
theorem d_X12_read_99 : decode cX12_read 99 = .ok (.iload_n 2, 1) := by decide +kernel
theorem d_X12_read_100 : decode cX12_read 100 = .ok (.if_icmp .eq 7, 3) := by decide +kernel
theorem d_X12_read_103 : decode cX12_read 103 = .ok (.iconst 3, 1) := by decide +kernel
theorem d_X12_read_104 : decode cX12_read 104 = .ok (.goto 26, 3) := by decide +kernel
theorem d_X12_read_107 : decode cX12_read 107 = .ok (.lload 8, 2) := by decide +kernel
theorem d_X12_read_109 : decode cX12_read 109 = .ok (.lconst 0, 1) := by decide +kernel
theorem d_X12_read_110 : decode cX12_read 110 = .ok (.aload_n 0, 1) := by decide +kernel
theorem d_X12_read_111 : decode cX12_read 111 = .ok (.getfield 53, 3) := by decide +kernel
theorem d_X12_read_114 : decode cX12_read 114 = .ok (.iload_n 1, 1) := by decide +kernel
theorem d_X12_read_115 : decode cX12_read 115 = .ok (.iaload, 1) := by decide +kernel
theorem d_X12_read_116 : decode cX12_read 116 = .ok (.iconst 1, 1) := by decide +kernel
theorem d_X12_read_117 : decode cX12_read 117 = .ok (.isub, 1) := by decide +kernel
theorem d_X12_read_118 : decode cX12_read 118 = .ok (.i2l, 1) := by decide +kernel
theorem d_X12_read_119 : decode cX12_read 119 = .ok (.invokestatic 61, 3) := by decide +kernel
theorem d_X12_read_122 : decode cX12_read 122 = .ok (.ifCond .ne 7, 3) := by decide +kernel
theorem d_X12_read_125 : decode cX12_read 125 = .ok (.iconst 2, 1) := by decide +kernel
theorem d_X12_read_126 : decode cX12_read 126 = .ok (.goto 4, 3) := by decide +kernel
theorem d_X12_read_129 : decode cX12_read 129 = .ok (.iconst 0, 1) := by decide +kernel
theorem d_X12_read_130 : decode cX12_read 130 = .ok (.istore 5, 2) := by decide +kernel
theorem d_X12_read_132 : decode cX12_read 132 = .ok (.iload 5, 2) := by decide +kernel
theorem d_X12_read_134 : decode cX12_read 134 = .ok (.ifCond .ne 70, 3) := by decide +kernel
theorem d_X12_read_137 : decode cX12_read 137 = .ok (.iload 7, 2) := by decide +kernel
theorem d_X12_read_139 : decode cX12_read 139 = .ok (.iconst 3, 1) := by decide +kernel
theorem d_X12_read_140 : decode cX12_read 140 = .ok (.irem, 1) := by decide +kernel
theorem d_X12_read_141 : decode cX12_read 141 = .ok (.iconst 2, 1) := by decide +kernel
theorem d_X12_read_142 : decode cX12_read 142 = .ok (.if_icmp .ne 62, 3) := by decide +kernel
theorem d_X12_read_145 : decode cX12_read 145 = .ok (.bipush 40, 2) := by decide +kernel
theorem d_X12_read_147 : decode cX12_read 147 = .ok (.iload_n 1, 1) := by decide +kernel
theorem d_X12_read_148 : decode cX12_read 148 = .ok (.imul, 1) := by decide +kernel
theorem d_X12_read_149 : decode cX12_read 149 = .ok (.lload 8, 2) := by decide +kernel
theorem d_X12_read_151 : decode cX12_read 151 = .ok (.l2i, 1) := by decide +kernel
theorem d_X12_read_152 : decode cX12_read 152 = .ok (.iadd, 1) := by decide +kernel
theorem d_X12_read_153 : decode cX12_read 153 = .ok (.istore 10, 2) := by decide +kernel
theorem d_X12_read_155 : decode cX12_read 155 = .ok (.aload_n 0, 1) := by decide +kernel
theorem d_X12_read_156 : decode cX12_read 156 = .ok (.aload_n 0, 1) := by decide +kernel
theorem d_X12_read_157 : decode cX12_read 157 = .ok (.getfield 56, 3) := by decide +kernel
theorem d_X12_read_160 : decode cX12_read 160 = .ok (.iload 10, 2) := by decide +kernel
theorem d_X12_read_162 : decode cX12_read 162 = .ok (.iconst 2, 1) := by decide +kernel
theorem d_X12_read_163 : decode cX12_read 163 = .ok (.isub, 1) := by decide +kernel
theorem d_X12_read_164 : decode cX12_read 164 = .ok (.iaload, 1) := by decide +kernel
theorem d_X12_read_165 : decode cX12_read 165 = .ok (.aload_n 0, 1) := by decide +kernel
theorem d_X12_read_166 : decode cX12_read 166 = .ok (.getfield 56, 3) := by decide +kernel
theorem d_X12_read_169 : decode cX12_read 169 = .ok (.iload 10, 2) := by decide +kernel
theorem d_X12_read_171 : decode cX12_read 171 = .ok (.iconst 1, 1) := by decide +kernel
theorem d_X12_read_172 : decode cX12_read 172 = .ok (.isub, 1) := by decide +kernel
theorem d_X12_read_173 : decode cX12_read 173 = .ok (.iaload, 1) := by decide +kernel
theorem d_X12_read_174 : decode cX12_read 174 = .ok (.aload_n 0, 1) := by decide +kernel
theorem d_X12_read_175 : decode cX12_read 175 = .ok (.getfield 56, 3) := by decide +kernel
theorem d_X12_read_178 : decode cX12_read 178 = .ok (.iload 10, 2) := by decide +kernel
theorem d_X12_read_180 : decode cX12_read 180 = .ok (.iaload, 1) := by decide +kernel
theorem d_X12_read_181 : decode cX12_read 181 = .ok (.invokevirtual 260, 3) := by decide +kernel
theorem d_X12_read_184 : decode cX12_read 184 = .ok (.ifCond .ge 17, 3) := by decide +kernel
theorem d_X12_read_187 : decode cX12_read 187 = .ok (.aload_n 0, 1) := by decide +kernel
theorem d_X12_read_188 : decode cX12_read 188 = .ok (.sipush 244, 3) := by decide +kernel
theorem d_X12_read_191 : decode cX12_read 191 = .ok (.iconst 0, 1) := by decide +kernel
theorem d_X12_read_192 : decode cX12_read 192 = .ok (.invokevirtual 162, 3) := by decide +kernel
theorem d_X12_read_195 : decode cX12_read 195 = .ok (.bipush (-20), 2) := by decide +kernel
theorem d_X12_read_197 : decode cX12_read 197 = .ok (.iload 6, 2) := by decide +kernel
theorem d_X12_read_199 : decode cX12_read 199 = .ok (.isub, 1) := by decide +kernel
theorem d_X12_read_200 : decode cX12_read 200 = .ok (.ireturn, 1) := by decide +kernel
theorem d_X12_read_201 : decode cX12_read 201 = .ok (.iinc 6 1, 3) := by decide +kernel
theorem d_X12_read_204 : decode cX12_read 204 = .ok (.iinc 7 1, 3) := by decide +kernel
theorem d_X12_read_207 : decode cX12_read 207 = .ok (.goto (-151), 3) := by decide +kernel
theorem d_X12_read_210 : decode cX12_read 210 = .ok (.aload_n 0, 1) := by decide +kernel
theorem d_X12_read_211 : decode cX12_read 211 = .ok (.iload 5, 2) := by decide +kernel
theorem d_X12_read_213 : decode cX12_read 213 = .ok (.putfield 304, 3) := by decide +kernel
theorem d_X12_read_216 : decode cX12_read 216 = .ok (.iload 6, 2) := by decide +kernel
theorem d_X12_read_218 : decode cX12_read 218 = .ok (.ireturn, 1) := by decide +kernel
theorem b_X12_read_0 {X : cX} {d : Nat} {μ : mM} {K : Option Value → mM → Prop} {r0 : Nat} {l1 : Int32} {l2 : Int32} {l3 : Int32} {l4 : Int32} (hK : (e_X12_in μ l1.toInt64 0 3) = 0 → K (some (.int (-1))) μ) (hK_2 : ¬ (e_X12_in μ l1.toInt64 0 3) = 0 → (e_X12_in μ l2.toInt64 0 2) = 0 → K (some (.int (-1))) μ) (hw12_r0 : WF12 μ r0) (hc_copies : ¬ (e_X12_in μ l1.toInt64 0 3) = 0 → ¬ (e_X12_in μ l2.toInt64 0 2) = 0 → ¬ (e_X12_in μ l4.toInt64 0 13) = 0 → Ct X (Rm (d + 2)) mX12_copies [.ref r0, .int 0, .int 244] μ (fun r μ2 => G X (Rm (d + 3)) mX12_read 47 [(0, .ref r0), (1, .int l1), (2, .int l2), (3, .int l3), (4, .int l4)] (r.toList ++ []) μ2 0 0 K)) (hK_3 : ¬ (e_X12_in μ l1.toInt64 0 3) = 0 → ¬ (e_X12_in μ l2.toInt64 0 2) = 0 → (e_X12_in μ l4.toInt64 0 13) = 0 → K (some (.int (-1))) μ) : G X (Rm (d + 3)) mX12_read 0 [(0, .ref r0), (1, .int l1), (2, .int l2), (3, .int l3), (4, .int l4)] [] μ 0 0 K := by
  refine G_iload_n d_X12_read_0 rfl 1 rfl ?_
  refine G_i2l (v := l1.toInt64) d_X12_read_1 rfl ?_
  refine G_lconst (v := 0) d_X12_read_2 rfl ?_
  refine G_ldc2 kl_X12_134 d_X12_read_3 ?_
  refine G_callS (M' := mX12_in) (R' := (Rm (d + 2))) (S := []) [.long l1.toInt64, .long 0, .long 3] ok_X12_in ml_X12_61 pn_X12_in (ru_Rm (by decide)) (Nat.le_of_ble_eq_true rfl) d_X12_read_6 (s_X12_in (μ := μ)   ?_)
  show G X (Rm (d + 3)) mX12_read 9 [(0, .ref r0), (1, .int l1), (2, .int l2), (3, .int l3), (4, .int l4)] [.int (e_X12_in μ l1.toInt64 0 3)] μ 0 0 K
  refine G_if_eq (tgt := 37) d_X12_read_9 rfl (fun c0 => ?_) (fun c0 => ?_)
  ·
    refine G_iconst d_X12_read_37 ic_m1 ?_
    exact G_iret rfl rfl rfl d_X12_read_38 (hK c0)
  ·
    refine G_iload_n d_X12_read_12 rfl 2 rfl ?_
    refine G_i2l (v := l2.toInt64) d_X12_read_13 rfl ?_
    refine G_lconst (v := 0) d_X12_read_14 rfl ?_
    refine G_ldc2 kl_X12_103 d_X12_read_15 ?_
    refine G_callS (M' := mX12_in) (R' := (Rm (d + 2))) (S := []) [.long l2.toInt64, .long 0, .long 2] ok_X12_in ml_X12_61 pn_X12_in (ru_Rm (by decide)) (Nat.le_of_ble_eq_true rfl) d_X12_read_18 (s_X12_in (μ := μ)   ?_)
    show G X (Rm (d + 3)) mX12_read 21 [(0, .ref r0), (1, .int l1), (2, .int l2), (3, .int l3), (4, .int l4)] [.int (e_X12_in μ l2.toInt64 0 2)] μ 0 0 K
    refine G_if_eq (tgt := 37) d_X12_read_21 rfl (fun c1 => ?_) (fun c1 => ?_)
    ·
      refine G_iconst d_X12_read_37 ic_m1 ?_
      exact G_iret rfl rfl rfl d_X12_read_38 (hK_2 c0 c1)
    ·
      refine G_iload d_X12_read_24 4 rfl ?_
      refine G_i2l (v := l4.toInt64) d_X12_read_26 rfl ?_
      refine G_lconst (v := 0) d_X12_read_27 rfl ?_
      refine G_ldc2 kl_X12_302 d_X12_read_28 ?_
      refine G_callS (M' := mX12_in) (R' := (Rm (d + 2))) (S := []) [.long l4.toInt64, .long 0, .long 13] ok_X12_in ml_X12_61 pn_X12_in (ru_Rm (by decide)) (Nat.le_of_ble_eq_true rfl) d_X12_read_31 (s_X12_in (μ := μ)   ?_)
      show G X (Rm (d + 3)) mX12_read 34 [(0, .ref r0), (1, .int l1), (2, .int l2), (3, .int l3), (4, .int l4)] [.int (e_X12_in μ l4.toInt64 0 13)] μ 0 0 K
      refine G_if_ne (tgt := 39) d_X12_read_34 rfl (fun c2 => ?_) (fun c2 => ?_)
      ·
        refine G_aload_n d_X12_read_39 rfl 0 rfl ?_
        refine G_iconst d_X12_read_40 ic_0 ?_
        refine G_sipush d_X12_read_41 sp_244 ?_
        refine G_callV (M' := mX12_copies) (R' := (Rm (d + 2))) (S := []) [.int 0, .int 244] 12 (w12_kd hw12_r0) cok12 rfl ok_X12_copies ml_X12_162 pn_X12_copies (ru_Rm (by decide)) (Nat.le_of_ble_eq_true rfl) d_X12_read_44 ?_
        exact (hc_copies c0 c1 c2)
      ·
        refine G_iconst d_X12_read_37 ic_m1 ?_
        exact G_iret rfl rfl rfl d_X12_read_38 (hK_3 c0 c1 c2)
theorem b_X12_read_47 {X : cX} {d : Nat} {μ : mM} {K : Option Value → mM → Prop} {r0 : Nat} {l1 : Int32} {l2 : Int32} {l3 : Int32} {l4 : Int32} (h : G X (Rm (d + 3)) mX12_read 56 [(0, .ref r0), (1, .int l1), (2, .int l2), (3, .int l3), (4, .int l4), (5, .int 0), (6, .int (nI 0)), (7, .int (nI 0))] [] μ 0 0 K) : G X (Rm (d + 3)) mX12_read 47 [(0, .ref r0), (1, .int l1), (2, .int l2), (3, .int l3), (4, .int l4)] [] μ 0 0 K := by
  refine G_iconst d_X12_read_47 ic_0 ?_
  refine G_istore (L' := [(5, .int 0), (0, .ref r0), (1, .int l1), (2, .int l2), (3, .int l3), (4, .int l4)]) d_X12_read_48 (by decide) rfl ?_
  refine G_iconst d_X12_read_50 ic_0 ?_
  refine G_istore (L' := [(6, .int (nI 0)), (5, .int 0), (0, .ref r0), (1, .int l1), (2, .int l2), (3, .int l3), (4, .int l4)]) d_X12_read_51 (by decide) rfl ?_
  refine G_iconst d_X12_read_53 ic_0 ?_
  refine G_istore (L' := [(7, .int (nI 0)), (6, .int (nI 0)), (5, .int 0), (0, .ref r0), (1, .int l1), (2, .int l2), (3, .int l3), (4, .int l4)]) d_X12_read_54 (by decide) rfl ?_
  refine G_sub (L' := [(0, .ref r0), (1, .int l1), (2, .int l2), (3, .int l3), (4, .int l4), (5, .int 0), (6, .int (nI 0)), (7, .int (nI 0))]) [3, 4, 5, 6, 7, 2, 1, 0] rfl ?_
  exact h
theorem b_X12_read_56 {X : cX} {d : Nat} {μ : mM} {K : Option Value → mM → Prop} {r0 : Nat} {i1 : Nat} {l2 : Int32} {l3 : Int32} {l4 : Int32} {l5 : Int32} {l6 : Int32} {l7 : Int32} (h : ((3 : Int32) * l4) ≤ l7 → G X (Rm (d + 3)) mX12_read 210 [(0, .ref r0), (5, .int l5), (6, .int l6)] [] μ 0 0 K) (h_2 : ¬ ((3 : Int32) * l4) ≤ l7 → ¬ l5 = 0 → G X (Rm (d + 3)) mX12_read 210 [(0, .ref r0), (5, .int l5), (6, .int l6)] [] μ 0 0 K) (hw12_r0 : WF12 μ r0) (hb : ¬ ((3 : Int32) * l4) ≤ l7 → l5 = 0 → i1 < 4) (hb_2 : ¬ ((3 : Int32) * l4) ≤ l7 → l5 = 0 → ¬ (iv μ (r0 + 14) i1) = ((-4) : Int32) → i1 < 4) (hb_3 : ¬ ((3 : Int32) * l4) ≤ l7 → l5 = 0 → ¬ (iv μ (r0 + 14) i1) = ((-4) : Int32) → (iv μ (r0 + 14) i1) = l2 → i1 < 4) (h_3 : ¬ ((3 : Int32) * l4) ≤ l7 → l5 = 0 → ¬ (iv μ (r0 + 14) i1) = ((-4) : Int32) → (iv μ (r0 + 14) i1) = l2 → ¬ (e_X12_in μ (l3.toInt64 + l7.toInt64) 0 (((iv μ (r0 + 15) i1) - 1).toInt64)) = 0 → G X (Rm (d + 3)) mX12_read 130 [(0, .ref r0), (1, .int (nI i1)), (2, .int l2), (3, .int l3), (4, .int l4), (6, .int l6), (7, .int l7), (8, .long (l3.toInt64 + l7.toInt64))] [.int 0] μ 0 0 K) (h_4 : ¬ ((3 : Int32) * l4) ≤ l7 → l5 = 0 → ¬ (iv μ (r0 + 14) i1) = ((-4) : Int32) → (iv μ (r0 + 14) i1) = l2 → (e_X12_in μ (l3.toInt64 + l7.toInt64) 0 (((iv μ (r0 + 15) i1) - 1).toInt64)) = 0 → G X (Rm (d + 3)) mX12_read 130 [(0, .ref r0), (1, .int (nI i1)), (2, .int l2), (3, .int l3), (4, .int l4), (6, .int l6), (7, .int l7), (8, .long (l3.toInt64 + l7.toInt64))] [.int 2] μ 0 0 K) (h_5 : ¬ ((3 : Int32) * l4) ≤ l7 → l5 = 0 → ¬ (iv μ (r0 + 14) i1) = ((-4) : Int32) → ¬ (iv μ (r0 + 14) i1) = l2 → G X (Rm (d + 3)) mX12_read 130 [(0, .ref r0), (1, .int (nI i1)), (2, .int l2), (3, .int l3), (4, .int l4), (6, .int l6), (7, .int l7), (8, .long (l3.toInt64 + l7.toInt64))] [.int 3] μ 0 0 K) (h_6 : ¬ ((3 : Int32) * l4) ≤ l7 → l5 = 0 → (iv μ (r0 + 14) i1) = ((-4) : Int32) → G X (Rm (d + 3)) mX12_read 130 [(0, .ref r0), (1, .int (nI i1)), (2, .int l2), (3, .int l3), (4, .int l4), (6, .int l6), (7, .int l7), (8, .long (l3.toInt64 + l7.toInt64))] [.int 1] μ 0 0 K) : G X (Rm (d + 3)) mX12_read 56 [(0, .ref r0), (1, .int (nI i1)), (2, .int l2), (3, .int l3), (4, .int l4), (5, .int l5), (6, .int l6), (7, .int l7)] [] μ 0 0 K := by
  refine G_iload d_X12_read_56 7 rfl ?_
  refine G_iconst d_X12_read_58 ic_3 ?_
  refine G_iload d_X12_read_59 4 rfl ?_
  refine G_imul d_X12_read_61 ?_
  refine G_icmp_ge (tgt := 210) d_X12_read_62 rfl (fun c0 => ?_) (fun c0 => ?_)
  ·
    refine G_sub (L' := [(0, .ref r0), (5, .int l5), (6, .int l6)]) [0, 5, 6] rfl ?_
    exact (h c0)
  ·
    refine G_iload d_X12_read_65 5 rfl ?_
    refine G_if_ne (tgt := 210) d_X12_read_67 rfl (fun c1 => ?_) (fun c1 => ?_)
    ·
      refine G_sub (L' := [(0, .ref r0), (5, .int l5), (6, .int l6)]) [0, 5, 6] rfl ?_
      exact (h_2 c0 c1)
    ·
      refine G_iload_n d_X12_read_70 rfl 3 rfl ?_
      refine G_i2l (v := l3.toInt64) d_X12_read_71 rfl ?_
      refine G_iload d_X12_read_72 7 rfl ?_
      refine G_i2l (v := l7.toInt64) d_X12_read_74 rfl ?_
      refine G_ladd d_X12_read_75 ?_
      refine G_lstore (L' := [(8, .long (l3.toInt64 + l7.toInt64)), (0, .ref r0), (1, .int (nI i1)), (2, .int l2), (3, .int l3), (4, .int l4), (5, .int l5), (6, .int l6), (7, .int l7)]) d_X12_read_76 (by decide) rfl ?_
      refine G_aload_n d_X12_read_78 rfl 1 rfl ?_
      refine G_getR (r := r0 + 14) 12 25 (w12_kd hw12_r0) (w12_f25 hw12_r0) cok12 (by decide) rfl fl_X12_50 d_X12_read_79 ?_
      refine G_iload_n d_X12_read_82 rfl 2 rfl ?_
      refine G_iald i1 (w12_k25 hw12_r0) rfl (hb c0 c1) d_X12_read_83 ?_
      refine G_bipush d_X12_read_84 bp_m4 ?_
      refine G_icmp_ne (tgt := 93) d_X12_read_86 rfl (fun c2 => ?_) (fun c2 => ?_)
      ·
        refine G_aload_n d_X12_read_93 rfl 1 rfl ?_
        refine G_getR (r := r0 + 14) 12 25 (w12_kd hw12_r0) (w12_f25 hw12_r0) cok12 (by decide) rfl fl_X12_50 d_X12_read_94 ?_
        refine G_iload_n d_X12_read_97 rfl 2 rfl ?_
        refine G_iald i1 (w12_k25 hw12_r0) rfl (hb_2 c0 c1 c2) d_X12_read_98 ?_
        refine G_iload_n d_X12_read_99 rfl 3 rfl ?_
        refine G_icmp_eq (tgt := 107) d_X12_read_100 rfl (fun c3 => ?_) (fun c3 => ?_)
        ·
          refine G_lload d_X12_read_107 0 rfl ?_
          refine G_lconst (v := 0) d_X12_read_109 rfl ?_
          refine G_aload_n d_X12_read_110 rfl 1 rfl ?_
          refine G_getR (r := r0 + 15) 12 26 (w12_kd hw12_r0) (w12_f26 hw12_r0) cok12 (by decide) rfl fl_X12_53 d_X12_read_111 ?_
          refine G_iload_n d_X12_read_114 rfl 2 rfl ?_
          refine G_iald i1 (w12_k26 hw12_r0) rfl (hb_3 c0 c1 c2 c3) d_X12_read_115 ?_
          refine G_iconst d_X12_read_116 ic_1 ?_
          refine G_isub d_X12_read_117 ?_
          refine G_i2l (v := ((iv μ (r0 + 15) i1) - 1).toInt64) d_X12_read_118 rfl ?_
          refine G_callS (M' := mX12_in) (R' := (Rm (d + 2))) (S := []) [.long (l3.toInt64 + l7.toInt64), .long 0, .long (((iv μ (r0 + 15) i1) - 1).toInt64)] ok_X12_in ml_X12_61 pn_X12_in (ru_Rm (by decide)) (Nat.le_of_ble_eq_true rfl) d_X12_read_119 (s_X12_in (μ := μ)   ?_)
          show G X (Rm (d + 3)) mX12_read 122 [(8, .long (l3.toInt64 + l7.toInt64)), (0, .ref r0), (1, .int (nI i1)), (2, .int l2), (3, .int l3), (4, .int l4), (5, .int l5), (6, .int l6), (7, .int l7)] [.int (e_X12_in μ (l3.toInt64 + l7.toInt64) 0 (((iv μ (r0 + 15) i1) - 1).toInt64))] μ 0 0 K
          refine G_if_ne (tgt := 129) d_X12_read_122 rfl (fun c4 => ?_) (fun c4 => ?_)
          ·
            refine G_iconst d_X12_read_129 ic_0 ?_
            refine G_sub (L' := [(0, .ref r0), (1, .int (nI i1)), (2, .int l2), (3, .int l3), (4, .int l4), (6, .int l6), (7, .int l7), (8, .long (l3.toInt64 + l7.toInt64))]) [1, 2, 3, 4, 5, 7, 8, 0] rfl ?_
            exact (h_3 c0 c1 c2 c3 c4)
          ·
            refine G_iconst d_X12_read_125 ic_2 ?_
            refine G_goto (tgt := 130) d_X12_read_126 rfl ?_
            refine G_sub (L' := [(0, .ref r0), (1, .int (nI i1)), (2, .int l2), (3, .int l3), (4, .int l4), (6, .int l6), (7, .int l7), (8, .long (l3.toInt64 + l7.toInt64))]) [1, 2, 3, 4, 5, 7, 8, 0] rfl ?_
            exact (h_4 c0 c1 c2 c3 c4)
        ·
          refine G_iconst d_X12_read_103 ic_3 ?_
          refine G_goto (tgt := 130) d_X12_read_104 rfl ?_
          refine G_sub (L' := [(0, .ref r0), (1, .int (nI i1)), (2, .int l2), (3, .int l3), (4, .int l4), (6, .int l6), (7, .int l7), (8, .long (l3.toInt64 + l7.toInt64))]) [1, 2, 3, 4, 5, 7, 8, 0] rfl ?_
          exact (h_5 c0 c1 c2 c3)
      ·
        refine G_iconst d_X12_read_89 ic_1 ?_
        refine G_goto (tgt := 130) d_X12_read_90 rfl ?_
        refine G_sub (L' := [(0, .ref r0), (1, .int (nI i1)), (2, .int l2), (3, .int l3), (4, .int l4), (6, .int l6), (7, .int l7), (8, .long (l3.toInt64 + l7.toInt64))]) [1, 2, 3, 4, 5, 7, 8, 0] rfl ?_
        exact (h_6 c0 c1 c2)
theorem b_X12_read_130 {X : cX} {d : Nat} {μ : mM} {K : Option Value → mM → Prop} {r0 : Nat} {i1 : Nat} {l2 : Int32} {l3 : Int32} {l4 : Int32} {l6 : Int32} {l7 : Int32} {g8 : Int64} {v0 : Int32} {j0 : Nat} {j1 : Nat} {j2 : Nat} (h : ¬ v0 = 0 → G X (Rm (d + 3)) mX12_read 204 [(0, .ref r0), (1, .int (nI i1)), (2, .int l2), (3, .int l3), (4, .int l4), (5, .int v0), (6, .int l6), (7, .int l7)] [] μ 0 0 K) (h_2 : v0 = 0 → ¬ (l7 - l7 / 3 * 3) = (2 : Int32) → G X (Rm (d + 3)) mX12_read 204 [(0, .ref r0), (1, .int (nI i1)), (2, .int l2), (3, .int l3), (4, .int l4), (5, .int v0), (6, .int l6), (7, .int l7)] [] μ 0 0 K) (hw12_r0 : WF12 μ r0) (hi_j0 : v0 = 0 → (l7 - l7 / 3 * 3) = (2 : Int32) → (((40 : Int32) * (nI i1)) + g8.toInt32) - 2 = nI j0) (hb : v0 = 0 → (l7 - l7 / 3 * 3) = (2 : Int32) → j0 < 160) (hi_j1 : v0 = 0 → (l7 - l7 / 3 * 3) = (2 : Int32) → (((40 : Int32) * (nI i1)) + g8.toInt32) - 1 = nI j1) (hb_2 : v0 = 0 → (l7 - l7 / 3 * 3) = (2 : Int32) → j1 < 160) (hi_j2 : v0 = 0 → (l7 - l7 / 3 * 3) = (2 : Int32) → ((40 : Int32) * (nI i1)) + g8.toInt32 = nI j2) (hb_3 : v0 = 0 → (l7 - l7 / 3 * 3) = (2 : Int32) → j2 < 160) (hc_does : v0 = 0 → (l7 - l7 / 3 * 3) = (2 : Int32) → Ct X (Rm (d + 2)) mX12_does [.ref r0, .int (iv μ (r0 + 16) j0), .int (iv μ (r0 + 16) j1), .int (iv μ (r0 + 16) j2)] μ (fun r μ2 => G X (Rm (d + 3)) mX12_read 184 [(0, .ref r0), (1, .int (nI i1)), (2, .int l2), (3, .int l3), (4, .int l4), (5, .int v0), (6, .int l6), (7, .int l7)] (r.toList ++ []) μ2 0 0 K)) : G X (Rm (d + 3)) mX12_read 130 [(0, .ref r0), (1, .int (nI i1)), (2, .int l2), (3, .int l3), (4, .int l4), (6, .int l6), (7, .int l7), (8, .long g8)] [.int v0] μ 0 0 K := by
  refine G_istore (L' := [(5, .int v0), (0, .ref r0), (1, .int (nI i1)), (2, .int l2), (3, .int l3), (4, .int l4), (6, .int l6), (7, .int l7), (8, .long g8)]) d_X12_read_130 (by decide) rfl ?_
  refine G_iload d_X12_read_132 0 rfl ?_
  refine G_if_ne (tgt := 204) d_X12_read_134 rfl (fun c0 => ?_) (fun c0 => ?_)
  ·
    refine G_sub (L' := [(0, .ref r0), (1, .int (nI i1)), (2, .int l2), (3, .int l3), (4, .int l4), (5, .int v0), (6, .int l6), (7, .int l7)]) [1, 2, 3, 4, 5, 0, 6, 7] rfl ?_
    exact (h c0)
  ·
    refine G_iload d_X12_read_137 7 rfl ?_
    refine G_iconst d_X12_read_139 ic_3 ?_
    refine G_irem d_X12_read_140 (by decide) ?_
    refine G_iconst d_X12_read_141 ic_2 ?_
    refine G_icmp_ne (tgt := 204) d_X12_read_142 rfl (fun c1 => ?_) (fun c1 => ?_)
    ·
      refine G_sub (L' := [(0, .ref r0), (1, .int (nI i1)), (2, .int l2), (3, .int l3), (4, .int l4), (5, .int v0), (6, .int l6), (7, .int l7)]) [1, 2, 3, 4, 5, 0, 6, 7] rfl ?_
      exact (h_2 c0 c1)
    ·
      refine G_bipush d_X12_read_145 bp_40 ?_
      refine G_iload_n d_X12_read_147 rfl 2 rfl ?_
      refine G_imul d_X12_read_148 ?_
      refine G_lload d_X12_read_149 8 rfl ?_
      refine G_l2i (v := g8.toInt32) d_X12_read_151 rfl ?_
      refine G_iadd d_X12_read_152 ?_
      refine G_istore (L' := [(10, .int (((40 : Int32) * (nI i1)) + g8.toInt32)), (5, .int v0), (0, .ref r0), (1, .int (nI i1)), (2, .int l2), (3, .int l3), (4, .int l4), (6, .int l6), (7, .int l7), (8, .long g8)]) d_X12_read_153 (by decide) rfl ?_
      refine G_aload_n d_X12_read_155 rfl 2 rfl ?_
      refine G_aload_n d_X12_read_156 rfl 2 rfl ?_
      refine G_getR (r := r0 + 16) 12 27 (w12_kd hw12_r0) (w12_f27 hw12_r0) cok12 (by decide) rfl fl_X12_56 d_X12_read_157 ?_
      refine G_iload d_X12_read_160 0 rfl ?_
      refine G_iconst d_X12_read_162 ic_2 ?_
      refine G_isub d_X12_read_163 ?_
      refine G_iald j0 (w12_k27 hw12_r0) (hi_j0 c0 c1) (hb c0 c1) d_X12_read_164 ?_
      refine G_aload_n d_X12_read_165 rfl 2 rfl ?_
      refine G_getR (r := r0 + 16) 12 27 (w12_kd hw12_r0) (w12_f27 hw12_r0) cok12 (by decide) rfl fl_X12_56 d_X12_read_166 ?_
      refine G_iload d_X12_read_169 0 rfl ?_
      refine G_iconst d_X12_read_171 ic_1 ?_
      refine G_isub d_X12_read_172 ?_
      refine G_iald j1 (w12_k27 hw12_r0) (hi_j1 c0 c1) (hb_2 c0 c1) d_X12_read_173 ?_
      refine G_aload_n d_X12_read_174 rfl 2 rfl ?_
      refine G_getR (r := r0 + 16) 12 27 (w12_kd hw12_r0) (w12_f27 hw12_r0) cok12 (by decide) rfl fl_X12_56 d_X12_read_175 ?_
      refine G_iload d_X12_read_178 0 rfl ?_
      refine G_iald j2 (w12_k27 hw12_r0) (hi_j2 c0 c1) (hb_3 c0 c1) d_X12_read_180 ?_
      refine G_sub (L' := [(0, .ref r0), (1, .int (nI i1)), (2, .int l2), (3, .int l3), (4, .int l4), (5, .int v0), (6, .int l6), (7, .int l7)]) [2, 3, 4, 5, 6, 1, 7, 8] rfl ?_
      refine G_callV (M' := mX12_does) (R' := (Rm (d + 2))) (S := []) [.int (iv μ (r0 + 16) j0), .int (iv μ (r0 + 16) j1), .int (iv μ (r0 + 16) j2)] 12 (w12_kd hw12_r0) cok12 rfl ok_X12_does ml_X12_260 pn_X12_does (ru_Rm (by decide)) (Nat.le_of_ble_eq_true rfl) d_X12_read_181 ?_
      exact (hc_does c0 c1)
theorem b_X12_read_184 {X : cX} {d : Nat} {μ : mM} {K : Option Value → mM → Prop} {r0 : Nat} {l1 : Int32} {l2 : Int32} {l3 : Int32} {l4 : Int32} {l5 : Int32} {i6 : Nat} {l7 : Int32} {v0 : Int32} (h : 0 ≤ v0 → G X (Rm (d + 3)) mX12_read 204 [(0, .ref r0), (1, .int l1), (2, .int l2), (3, .int l3), (4, .int l4), (5, .int l5), (6, .int (nI (i6 + 1))), (7, .int l7)] [] μ 0 0 K) (hw12_r0 : WF12 μ r0) (hc_copies : ¬ 0 ≤ v0 → Ct X (Rm (d + 2)) mX12_copies [.ref r0, .int 244, .int 0] μ (fun r μ2 => G X (Rm (d + 3)) mX12_read 195 [(6, .int (nI i6))] (r.toList ++ []) μ2 0 0 K)) : G X (Rm (d + 3)) mX12_read 184 [(0, .ref r0), (1, .int l1), (2, .int l2), (3, .int l3), (4, .int l4), (5, .int l5), (6, .int (nI i6)), (7, .int l7)] [.int v0] μ 0 0 K := by
  refine G_if_ge (tgt := 201) d_X12_read_184 rfl (fun c0 => ?_) (fun c0 => ?_)
  ·
    refine G_iinc (L' := [(6, .int (nI (i6 + 1))), (0, .ref r0), (1, .int l1), (2, .int l2), (3, .int l3), (4, .int l4), (5, .int l5), (7, .int l7)]) d_X12_read_201 6 rfl (inc1 i6) (by decide) rfl ?_
    refine G_sub (L' := [(0, .ref r0), (1, .int l1), (2, .int l2), (3, .int l3), (4, .int l4), (5, .int l5), (6, .int (nI (i6 + 1))), (7, .int l7)]) [1, 2, 3, 4, 5, 6, 0, 7] rfl ?_
    exact (h c0)
  ·
    refine G_aload_n d_X12_read_187 rfl 0 rfl ?_
    refine G_sipush d_X12_read_188 sp_244 ?_
    refine G_iconst d_X12_read_191 ic_0 ?_
    refine G_sub (L' := [(6, .int (nI i6))]) [6] rfl ?_
    refine G_callV (M' := mX12_copies) (R' := (Rm (d + 2))) (S := []) [.int 244, .int 0] 12 (w12_kd hw12_r0) cok12 rfl ok_X12_copies ml_X12_162 pn_X12_copies (ru_Rm (by decide)) (Nat.le_of_ble_eq_true rfl) d_X12_read_192 ?_
    exact (hc_copies c0)
theorem b_X12_read_195 {X : cX} {d : Nat} {μ : mM} {K : Option Value → mM → Prop} {l6 : Int32} (hK : K (some (.int (((-20) : Int32) - l6))) μ) : G X (Rm (d + 3)) mX12_read 195 [(6, .int l6)] [] μ 0 0 K := by
  refine G_bipush d_X12_read_195 bp_m20 ?_
  refine G_iload d_X12_read_197 0 rfl ?_
  refine G_isub d_X12_read_199 ?_
  exact G_iret rfl rfl rfl d_X12_read_200 hK
theorem b_X12_read_204 {X : cX} {d : Nat} {μ : mM} {K : Option Value → mM → Prop} {r0 : Nat} {l1 : Int32} {l2 : Int32} {l3 : Int32} {l4 : Int32} {l5 : Int32} {l6 : Int32} {i7 : Nat} (h : G X (Rm (d + 3)) mX12_read 56 [(0, .ref r0), (1, .int l1), (2, .int l2), (3, .int l3), (4, .int l4), (5, .int l5), (6, .int l6), (7, .int (nI (i7 + 1)))] [] μ 0 0 K) : G X (Rm (d + 3)) mX12_read 204 [(0, .ref r0), (1, .int l1), (2, .int l2), (3, .int l3), (4, .int l4), (5, .int l5), (6, .int l6), (7, .int (nI i7))] [] μ 0 0 K := by
  refine G_iinc (L' := [(7, .int (nI (i7 + 1))), (0, .ref r0), (1, .int l1), (2, .int l2), (3, .int l3), (4, .int l4), (5, .int l5), (6, .int l6)]) d_X12_read_204 7 rfl (inc1 i7) (by decide) rfl ?_
  refine G_goto (tgt := 56) d_X12_read_207 rfl ?_
  refine G_sub (L' := [(0, .ref r0), (1, .int l1), (2, .int l2), (3, .int l3), (4, .int l4), (5, .int l5), (6, .int l6), (7, .int (nI (i7 + 1)))]) [1, 2, 3, 4, 5, 6, 7, 0] rfl ?_
  exact h
theorem b_X12_read_210 {X : cX} {d : Nat} {μ : mM} {K : Option Value → mM → Prop} {r0 : Nat} {l5 : Int32} {l6 : Int32} (hw12_r0 : WF12 μ r0) (hK : K (some (.int l6)) (wi μ r0 28 l5)) : G X (Rm (d + 3)) mX12_read 210 [(0, .ref r0), (5, .int l5), (6, .int l6)] [] μ 0 0 K := by
  refine G_aload_n d_X12_read_210 rfl 0 rfl ?_
  refine G_iload d_X12_read_211 1 rfl ?_
  refine G_putI 12 28 (w12_kd hw12_r0) rfl rfl cok12 (by decide) rfl (Or.inl rfl) fl_X12_304 d_X12_read_213 ?_
  refine G_iload d_X12_read_216 2 rfl ?_
  exact G_iret rfl rfl rfl d_X12_read_218 hK
theorem d_X12_torn_0 : decode cX12_torn 0 = .ok (.aload_n 0, 1) := by decide +kernel
theorem d_X12_torn_1 : decode cX12_torn 1 = .ok (.getfield 304, 3) := by decide +kernel
theorem d_X12_torn_4 : decode cX12_torn 4 = .ok (.ireturn, 1) := by decide +kernel
theorem b_X12_torn_0 {X : cX} {d : Nat} {μ : mM} {K : Option Value → mM → Prop} {r0 : Nat} (hw12_r0 : WF12 μ r0) (hK : K (some (.int (iv μ r0 28))) μ) : G X (Rm d) mX12_torn 0 [(0, .ref r0)] [] μ 0 0 K := by
  refine G_aload_n d_X12_torn_0 rfl 0 rfl ?_
  refine G_getI 12 28 (w12_kd hw12_r0) cok12 (by decide) rfl fl_X12_304 d_X12_torn_1 ?_
  exact G_iret rfl rfl rfl d_X12_torn_4 hK
def e_X12_torn (μ : mM) (r0 : Nat) : Int32 := (iv μ r0 28)
theorem s_X12_torn {X : cX} {d : Nat} {μ : mM} {K : Option Value → mM → Prop} {r0 : Nat} (hw12_r0 : WF12 μ r0) (hK : K (some (.int (e_X12_torn μ r0))) μ) : Ct X (Rm d) mX12_torn [.ref r0] μ K := Ct_of rfl (Nat.le_of_ble_eq_true rfl) (G_sub [0] rfl (b_X12_torn_0 hw12_r0 hK))
theorem d_X12_count_0 : decode cX12_count 0 = .ok (.iconst 0, 1) := by decide +kernel
theorem d_X12_count_1 : decode cX12_count 1 = .ok (.istore_n 2, 1) := by decide +kernel
theorem d_X12_count_2 : decode cX12_count 2 = .ok (.iconst 0, 1) := by decide +kernel
theorem d_X12_count_3 : decode cX12_count 3 = .ok (.istore_n 3, 1) := by decide +kernel
theorem d_X12_count_4 : decode cX12_count 4 = .ok (.iload_n 3, 1) := by decide +kernel
theorem d_X12_count_5 : decode cX12_count 5 = .ok (.aload_n 0, 1) := by decide +kernel
theorem d_X12_count_6 : decode cX12_count 6 = .ok (.getfield 166, 3) := by decide +kernel
theorem d_X12_count_9 : decode cX12_count 9 = .ok (.if_icmp .ge 23, 3) := by decide +kernel
theorem d_X12_count_12 : decode cX12_count 12 = .ok (.iload_n 2, 1) := by decide +kernel
theorem d_X12_count_13 : decode cX12_count 13 = .ok (.aload_n 0, 1) := by decide +kernel
theorem d_X12_count_14 : decode cX12_count 14 = .ok (.getfield 13, 3) := by decide +kernel
theorem d_X12_count_17 : decode cX12_count 17 = .ok (.bipush 48, 2) := by decide +kernel
theorem d_X12_count_19 : decode cX12_count 19 = .ok (.iload_n 3, 1) := by decide +kernel
theorem d_X12_count_20 : decode cX12_count 20 = .ok (.imul, 1) := by decide +kernel
theorem d_X12_count_21 : decode cX12_count 21 = .ok (.iconst 2, 1) := by decide +kernel
theorem d_X12_count_22 : decode cX12_count 22 = .ok (.iadd, 1) := by decide +kernel
theorem d_X12_count_23 : decode cX12_count 23 = .ok (.iaload, 1) := by decide +kernel
theorem d_X12_count_24 : decode cX12_count 24 = .ok (.iadd, 1) := by decide +kernel
theorem d_X12_count_25 : decode cX12_count 25 = .ok (.istore_n 2, 1) := by decide +kernel
theorem d_X12_count_26 : decode cX12_count 26 = .ok (.iinc 3 1, 3) := by decide +kernel
theorem d_X12_count_29 : decode cX12_count 29 = .ok (.goto (-25), 3) := by decide +kernel
theorem d_X12_count_32 : decode cX12_count 32 = .ok (.iload_n 1, 1) := by decide +kernel
theorem d_X12_count_33 : decode cX12_count 33 = .ok (.tableswitch 91 0 3 #[31, 61, 66, 89], 31) := by decide +kernel
theorem d_X12_count_64 : decode cX12_count 64 = .ok (.aload_n 0, 1) := by decide +kernel
theorem d_X12_count_65 : decode cX12_count 65 = .ok (.getfield 43, 3) := by decide +kernel
theorem d_X12_count_68 : decode cX12_count 68 = .ok (.iconst 0, 1) := by decide +kernel
theorem d_X12_count_69 : decode cX12_count 69 = .ok (.baload, 1) := by decide +kernel
theorem d_X12_count_70 : decode cX12_count 70 = .ok (.ifCond .eq 7, 3) := by decide +kernel
theorem d_X12_count_73 : decode cX12_count 73 = .ok (.iconst 1, 1) := by decide +kernel
theorem d_X12_count_74 : decode cX12_count 74 = .ok (.goto 4, 3) := by decide +kernel
theorem d_X12_count_77 : decode cX12_count 77 = .ok (.iconst 0, 1) := by decide +kernel
theorem d_X12_count_78 : decode cX12_count 78 = .ok (.aload_n 0, 1) := by decide +kernel
theorem d_X12_count_79 : decode cX12_count 79 = .ok (.getfield 43, 3) := by decide +kernel
theorem d_X12_count_82 : decode cX12_count 82 = .ok (.iconst 1, 1) := by decide +kernel
theorem d_X12_count_83 : decode cX12_count 83 = .ok (.baload, 1) := by decide +kernel
theorem d_X12_count_84 : decode cX12_count 84 = .ok (.ifCond .eq 7, 3) := by decide +kernel
theorem d_X12_count_87 : decode cX12_count 87 = .ok (.iconst 1, 1) := by decide +kernel
theorem d_X12_count_88 : decode cX12_count 88 = .ok (.goto 4, 3) := by decide +kernel
theorem d_X12_count_91 : decode cX12_count 91 = .ok (.iconst 0, 1) := by decide +kernel
theorem d_X12_count_92 : decode cX12_count 92 = .ok (.iadd, 1) := by decide +kernel
theorem d_X12_count_93 : decode cX12_count 93 = .ok (.ireturn, 1) := by decide +kernel
theorem d_X12_count_94 : decode cX12_count 94 = .ok (.aload_n 0, 1) := by decide +kernel
theorem d_X12_count_95 : decode cX12_count 95 = .ok (.getfield 65, 3) := by decide +kernel
theorem d_X12_count_98 : decode cX12_count 98 = .ok (.ireturn, 1) := by decide +kernel
theorem d_X12_count_99 : decode cX12_count 99 = .ok (.aload_n 0, 1) := by decide +kernel
theorem d_X12_count_100 : decode cX12_count 100 = .ok (.getfield 50, 3) := by decide +kernel
theorem d_X12_count_103 : decode cX12_count 103 = .ok (.iconst 0, 1) := by decide +kernel
theorem d_X12_count_104 : decode cX12_count 104 = .ok (.iaload, 1) := by decide +kernel
theorem d_X12_count_105 : decode cX12_count 105 = .ok (.bipush (-4), 2) := by decide +kernel
theorem d_X12_count_107 : decode cX12_count 107 = .ok (.if_icmp .ne 8, 3) := by decide +kernel
theorem d_X12_count_110 : decode cX12_count 110 = .ok (.bipush (-4), 2) := by decide +kernel
theorem d_X12_count_112 : decode cX12_count 112 = .ok (.goto 9, 3) := by decide +kernel
theorem d_X12_count_115 : decode cX12_count 115 = .ok (.aload_n 0, 1) := by decide +kernel
theorem d_X12_count_116 : decode cX12_count 116 = .ok (.getfield 53, 3) := by decide +kernel
theorem d_X12_count_119 : decode cX12_count 119 = .ok (.iconst 0, 1) := by decide +kernel
theorem d_X12_count_120 : decode cX12_count 120 = .ok (.iaload, 1) := by decide +kernel
theorem d_X12_count_121 : decode cX12_count 121 = .ok (.ireturn, 1) := by decide +kernel
theorem d_X12_count_122 : decode cX12_count 122 = .ok (.iload_n 2, 1) := by decide +kernel
theorem d_X12_count_123 : decode cX12_count 123 = .ok (.ireturn, 1) := by decide +kernel
theorem d_X12_count_124 : decode cX12_count 124 = .ok (.iconst (-1), 1) := by decide +kernel
theorem d_X12_count_125 : decode cX12_count 125 = .ok (.ireturn, 1) := by decide +kernel
theorem b_X12_count_0 {X : cX} {d : Nat} {μ : mM} {K : Option Value → mM → Prop} {r0 : Nat} {l1 : Int32} (h : G X (Rm d) mX12_count 4 [(0, .ref r0), (1, .int l1), (2, .int 0), (3, .int (nI 0))] [] μ 0 0 K) : G X (Rm d) mX12_count 0 [(0, .ref r0), (1, .int l1)] [] μ 0 0 K := by
  refine G_iconst d_X12_count_0 ic_0 ?_
  refine G_istore_n (L' := [(2, .int 0), (0, .ref r0), (1, .int l1)]) d_X12_count_1 rfl (by decide) rfl ?_
  refine G_iconst d_X12_count_2 ic_0 ?_
  refine G_istore_n (L' := [(3, .int (nI 0)), (2, .int 0), (0, .ref r0), (1, .int l1)]) d_X12_count_3 rfl (by decide) rfl ?_
  refine G_sub (L' := [(0, .ref r0), (1, .int l1), (2, .int 0), (3, .int (nI 0))]) [2, 3, 1, 0] rfl ?_
  exact h
theorem b_X12_count_4 {X : cX} {d : Nat} {μ : mM} {K : Option Value → mM → Prop} {r0 : Nat} {l1 : Int32} {l2 : Int32} {i3 : Nat} (hw12_r0 : WF12 μ r0) (h : (iv μ r0 2) ≤ (nI i3) → l1 = 0 → (iv μ (r0 + 12) 0) = 0 → G X (Rm d) mX12_count 78 [(0, .ref r0)] [.int 0] μ 0 0 K) (h_2 : (iv μ r0 2) ≤ (nI i3) → l1 = 0 → ¬ (iv μ (r0 + 12) 0) = 0 → G X (Rm d) mX12_count 78 [(0, .ref r0)] [.int 1] μ 0 0 K) (hK : (iv μ r0 2) ≤ (nI i3) → l1 = 1 → K (some (.int (iv μ r0 6))) μ) (hK_2 : (iv μ r0 2) ≤ (nI i3) → l1 = 2 → ¬ (iv μ (r0 + 14) 0) = ((-4) : Int32) → K (some (.int (iv μ (r0 + 15) 0))) μ) (hK_3 : (iv μ r0 2) ≤ (nI i3) → l1 = 2 → (iv μ (r0 + 14) 0) = ((-4) : Int32) → K (some (.int (-4))) μ) (hK_4 : (iv μ r0 2) ≤ (nI i3) → l1 = 3 → K (some (.int l2)) μ) (hK_5 : (iv μ r0 2) ≤ (nI i3) → (l1.toInt < 0 ∨ 3 < l1.toInt) → K (some (.int (-1))) μ) (hb : ¬ (iv μ r0 2) ≤ (nI i3) → ((48 * i3) + 2) < 192) (h_3 : ¬ (iv μ r0 2) ≤ (nI i3) → G X (Rm d) mX12_count 4 [(0, .ref r0), (1, .int l1), (2, .int (l2 + (iv μ (r0 + 2) ((48 * i3) + 2)))), (3, .int (nI (i3 + 1)))] [] μ 0 0 K) : G X (Rm d) mX12_count 4 [(0, .ref r0), (1, .int l1), (2, .int l2), (3, .int (nI i3))] [] μ 0 0 K := by
  refine G_iload_n d_X12_count_4 rfl 3 rfl ?_
  refine G_aload_n d_X12_count_5 rfl 0 rfl ?_
  refine G_getI 12 2 (w12_kd hw12_r0) cok12 (by decide) rfl fl_X12_166 d_X12_count_6 ?_
  refine G_icmp_ge (tgt := 32) d_X12_count_9 rfl (fun c0 => ?_) (fun c0 => ?_)
  ·
    refine G_iload_n d_X12_count_32 rfl 1 rfl ?_
    by_cases c1 : l1 = 0
    ·
      refine G_tableIn (tgt := 64) (off := 31) d_X12_count_33 (by rw [c1]; decide) (by rw [c1]; decide) (by rw [c1]; decide) rfl ?_
      refine G_aload_n d_X12_count_64 rfl 0 rfl ?_
      refine G_getR (r := r0 + 12) 12 23 (w12_kd hw12_r0) (w12_f23 hw12_r0) cok12 (by decide) rfl fl_X12_43 d_X12_count_65 ?_
      refine G_iconst d_X12_count_68 ic_0 ?_
      refine G_zald 0 (w12_k23 hw12_r0) rfl (by decide) d_X12_count_69 ?_
      refine G_if_eq (tgt := 77) d_X12_count_70 rfl (fun c2 => ?_) (fun c2 => ?_)
      ·
        refine G_iconst d_X12_count_77 ic_0 ?_
        refine G_sub (L' := [(0, .ref r0)]) [0] rfl ?_
        exact (h c0 c1 c2)
      ·
        refine G_iconst d_X12_count_73 ic_1 ?_
        refine G_goto (tgt := 78) d_X12_count_74 rfl ?_
        refine G_sub (L' := [(0, .ref r0)]) [0] rfl ?_
        exact (h_2 c0 c1 c2)
    have z0 := lv_neT c1 (show (0 : Int32).toInt = 0 from rfl)
    by_cases c1 : l1 = 1
    ·
      refine G_tableIn (tgt := 94) (off := 61) d_X12_count_33 (by rw [c1]; decide) (by rw [c1]; decide) (by rw [c1]; decide) rfl ?_
      refine G_aload_n d_X12_count_94 rfl 0 rfl ?_
      refine G_getI 12 6 (w12_kd hw12_r0) cok12 (by decide) rfl fl_X12_65 d_X12_count_95 ?_
      exact G_iret rfl rfl rfl d_X12_count_98 (hK c0 c1)
    have z1 := lv_neT c1 (show (1 : Int32).toInt = 1 from rfl)
    by_cases c1 : l1 = 2
    ·
      refine G_tableIn (tgt := 99) (off := 66) d_X12_count_33 (by rw [c1]; decide) (by rw [c1]; decide) (by rw [c1]; decide) rfl ?_
      refine G_aload_n d_X12_count_99 rfl 0 rfl ?_
      refine G_getR (r := r0 + 14) 12 25 (w12_kd hw12_r0) (w12_f25 hw12_r0) cok12 (by decide) rfl fl_X12_50 d_X12_count_100 ?_
      refine G_iconst d_X12_count_103 ic_0 ?_
      refine G_iald 0 (w12_k25 hw12_r0) rfl (by decide) d_X12_count_104 ?_
      refine G_bipush d_X12_count_105 bp_m4 ?_
      refine G_icmp_ne (tgt := 115) d_X12_count_107 rfl (fun c2 => ?_) (fun c2 => ?_)
      ·
        refine G_aload_n d_X12_count_115 rfl 0 rfl ?_
        refine G_getR (r := r0 + 15) 12 26 (w12_kd hw12_r0) (w12_f26 hw12_r0) cok12 (by decide) rfl fl_X12_53 d_X12_count_116 ?_
        refine G_iconst d_X12_count_119 ic_0 ?_
        refine G_iald 0 (w12_k26 hw12_r0) rfl (by decide) d_X12_count_120 ?_
        exact G_iret rfl rfl rfl d_X12_count_121 (hK_2 c0 c1 c2)
      ·
        refine G_bipush d_X12_count_110 bp_m4 ?_
        refine G_goto (tgt := 121) d_X12_count_112 rfl ?_
        exact G_iret rfl rfl rfl d_X12_count_121 (hK_3 c0 c1 c2)
    have z2 := lv_neT c1 (show (2 : Int32).toInt = 2 from rfl)
    by_cases c1 : l1 = 3
    ·
      refine G_tableIn (tgt := 122) (off := 89) d_X12_count_33 (by rw [c1]; decide) (by rw [c1]; decide) (by rw [c1]; decide) rfl ?_
      refine G_iload_n d_X12_count_122 rfl 2 rfl ?_
      exact G_iret rfl rfl rfl d_X12_count_123 (hK_4 c0 c1)
    have z3 := lv_neT c1 (show (3 : Int32).toInt = 3 from rfl)
    have c1 : l1.toInt < 0 ∨ 3 < l1.toInt := by omega
    refine G_tableOut (tgt := 124) d_X12_count_33 c1 rfl ?_
    refine G_iconst d_X12_count_124 ic_m1 ?_
    exact G_iret rfl rfl rfl d_X12_count_125 (hK_5 c0 c1)
  ·
    refine G_iload_n d_X12_count_12 rfl 2 rfl ?_
    refine G_aload_n d_X12_count_13 rfl 0 rfl ?_
    refine G_getR (r := r0 + 2) 12 1 (w12_kd hw12_r0) (w12_f1 hw12_r0) cok12 (by decide) rfl fl_X12_13 d_X12_count_14 ?_
    refine G_bipush d_X12_count_17 bp_48 ?_
    refine G_iload_n d_X12_count_19 rfl 3 rfl ?_
    refine G_imul d_X12_count_20 ?_
    refine G_iconst d_X12_count_21 ic_2 ?_
    refine G_iadd d_X12_count_22 ?_
    refine G_iald ((48 * i3) + 2) (w12_k1 hw12_r0) (nadd (nmul rfl rfl) rfl) (hb c0) d_X12_count_23 ?_
    refine G_iadd d_X12_count_24 ?_
    refine G_istore_n (L' := [(2, .int (l2 + (iv μ (r0 + 2) ((48 * i3) + 2)))), (0, .ref r0), (1, .int l1), (3, .int (nI i3))]) d_X12_count_25 rfl (by decide) rfl ?_
    refine G_iinc (L' := [(3, .int (nI (i3 + 1))), (2, .int (l2 + (iv μ (r0 + 2) ((48 * i3) + 2)))), (0, .ref r0), (1, .int l1)]) d_X12_count_26 3 rfl (inc1 i3) (by decide) rfl ?_
    refine G_goto (tgt := 4) d_X12_count_29 rfl ?_
    refine G_sub (L' := [(0, .ref r0), (1, .int l1), (2, .int (l2 + (iv μ (r0 + 2) ((48 * i3) + 2)))), (3, .int (nI (i3 + 1)))]) [2, 3, 1, 0] rfl ?_
    exact (h_3 c0)
theorem b_X12_count_78 {X : cX} {d : Nat} {μ : mM} {K : Option Value → mM → Prop} {r0 : Nat} {v0 : Int32} (hw12_r0 : WF12 μ r0) (hK : (iv μ (r0 + 12) 1) = 0 → K (some (.int (v0 + 0))) μ) (hK_2 : ¬ (iv μ (r0 + 12) 1) = 0 → K (some (.int (v0 + 1))) μ) : G X (Rm d) mX12_count 78 [(0, .ref r0)] [.int v0] μ 0 0 K := by
  refine G_aload_n d_X12_count_78 rfl 0 rfl ?_
  refine G_getR (r := r0 + 12) 12 23 (w12_kd hw12_r0) (w12_f23 hw12_r0) cok12 (by decide) rfl fl_X12_43 d_X12_count_79 ?_
  refine G_iconst d_X12_count_82 ic_1 ?_
  refine G_zald 1 (w12_k23 hw12_r0) rfl (by decide) d_X12_count_83 ?_
  refine G_if_eq (tgt := 91) d_X12_count_84 rfl (fun c0 => ?_) (fun c0 => ?_)
  ·
    refine G_iconst d_X12_count_91 ic_0 ?_
    refine G_iadd d_X12_count_92 ?_
    exact G_iret rfl rfl rfl d_X12_count_93 (hK c0)
  ·
    refine G_iconst d_X12_count_87 ic_1 ?_
    refine G_goto (tgt := 92) d_X12_count_88 rfl ?_
    refine G_iadd d_X12_count_92 ?_
    exact G_iret rfl rfl rfl d_X12_count_93 (hK_2 c0)
