theorem TB_p {w : Cond} (i : Nat) (h : (k2_sels lw_privs)[i]? = some w) (hg : goodWord w = true) : w ∈ TB := TB_mem (List.mem_append_left _ (List.mem_of_getElem? h)) hg
theorem TB_t1 {w : Cond} (i : Nat) (h : tables_1_1[i]? = some w) (hg : goodWord w = true) : w ∈ TB := TB_mem (List.mem_append_right _ (List.mem_append_left _ (List.mem_of_getElem? h))) hg
theorem TB_t2 {w : Cond} (i : Nat) (h : tables_1_2[i]? = some w) (hg : goodWord w = true) : w ∈ TB := TB_mem (List.mem_append_right _ (List.mem_append_right _ (List.mem_append_left _ (List.mem_of_getElem? h)))) hg
theorem TB_t3 {w : Cond} (i : Nat) (h : tables_1_3[i]? = some w) (hg : goodWord w = true) : w ∈ TB := TB_mem (List.mem_append_right _ (List.mem_append_right _ (List.mem_append_right _ (List.mem_append_left _ (List.mem_of_getElem? h))))) hg
theorem TB_t4 {w : Cond} (i : Nat) (h : tables_1_4[i]? = some w) (hg : goodWord w = true) : w ∈ TB := TB_mem (List.mem_append_right _ (List.mem_append_right _ (List.mem_append_right _ (List.mem_append_right _ (List.mem_append_left _ (List.mem_of_getElem? h)))))) hg
theorem TB_t5 {w : Cond} (i : Nat) (h : tables_1_5[i]? = some w) (hg : goodWord w = true) : w ∈ TB := TB_mem (List.mem_append_right _ (List.mem_append_right _ (List.mem_append_right _ (List.mem_append_right _ (List.mem_append_right _ (List.mem_append_left _ (List.mem_of_getElem? h))))))) hg
theorem TB_t6 {w : Cond} (i : Nat) (h : tables_1_6[i]? = some w) (hg : goodWord w = true) : w ∈ TB := TB_mem (List.mem_append_right _ (List.mem_append_right _ (List.mem_append_right _ (List.mem_append_right _ (List.mem_append_right _ (List.mem_append_right _ (List.mem_of_getElem? h))))))) hg
set_option maxRecDepth 100000 in
theorem fl_X9_9 : flW RX9 9 9 0 ∈ TB := TB_t1 35 rfl (by decide +kernel)
set_option maxRecDepth 100000 in
theorem fl_X9_15 : flW RX9 15 9 1 ∈ TB := TB_t1 36 rfl (by decide +kernel)
set_option maxRecDepth 100000 in
theorem fl_X11_91 : flW RX11 91 9 1 ∈ TB := TB_t1 37 rfl (by decide +kernel)
set_option maxRecDepth 100000 in
theorem fl_X4_39 : flW RX4 39 9 2 ∈ TB := TB_t1 38 rfl (by decide +kernel)
set_option maxRecDepth 100000 in
theorem fl_X9_28 : flW RX9 28 9 2 ∈ TB := TB_t1 39 rfl (by decide +kernel)
set_option maxRecDepth 100000 in
theorem fl_X4_59 : flW RX4 59 9 3 ∈ TB := TB_t1 40 rfl (by decide +kernel)
set_option maxRecDepth 100000 in
theorem fl_X9_25 : flW RX9 25 9 3 ∈ TB := TB_t1 41 rfl (by decide +kernel)
set_option maxRecDepth 100000 in
theorem fl_X9_19 : flW RX9 19 9 4 ∈ TB := TB_t1 42 rfl (by decide +kernel)
set_option maxRecDepth 100000 in
theorem fl_X5_29 : flW RX5 29 5 0 ∈ TB := TB_t1 75 rfl (by decide +kernel)
set_option maxRecDepth 100000 in
theorem fl_X0_24 : flW RX0 24 5 0 ∈ TB := TB_t1 76 rfl (by decide +kernel)
set_option maxRecDepth 100000 in
theorem fl_X2_28 : flW RX2 28 5 0 ∈ TB := TB_t1 77 rfl (by decide +kernel)
set_option maxRecDepth 100000 in
theorem fl_X4_50 : flW RX4 50 5 0 ∈ TB := TB_t1 78 rfl (by decide +kernel)
set_option maxRecDepth 100000 in
theorem fl_X1_59 : flW RX1 59 5 0 ∈ TB := TB_t1 79 rfl (by decide +kernel)
set_option maxRecDepth 100000 in
theorem fl_X6_36 : flW RX6 36 5 0 ∈ TB := TB_t1 80 rfl (by decide +kernel)
set_option maxRecDepth 100000 in
theorem fl_X8_54 : flW RX8 54 5 0 ∈ TB := TB_t1 81 rfl (by decide +kernel)
set_option maxRecDepth 100000 in
theorem fl_X11_117 : flW RX11 117 5 0 ∈ TB := TB_t1 82 rfl (by decide +kernel)
set_option maxRecDepth 100000 in
theorem fl_X3_69 : flW RX3 69 5 0 ∈ TB := TB_t1 83 rfl (by decide +kernel)
set_option maxRecDepth 100000 in
theorem fl_X5_9 : flW RX5 9 5 1 ∈ TB := TB_t1 84 rfl (by decide +kernel)
set_option maxRecDepth 100000 in
theorem fl_X2_54 : flW RX2 54 5 1 ∈ TB := TB_t1 85 rfl (by decide +kernel)
set_option maxRecDepth 100000 in
theorem fl_X8_50 : flW RX8 50 5 1 ∈ TB := TB_t1 86 rfl (by decide +kernel)
set_option maxRecDepth 100000 in
theorem fl_X0_37 : flW RX0 37 5 1 ∈ TB := TB_t1 87 rfl (by decide +kernel)
set_option maxRecDepth 100000 in
theorem fl_X6_54 : flW RX6 54 5 1 ∈ TB := TB_t1 88 rfl (by decide +kernel)
set_option maxRecDepth 100000 in
theorem fl_X11_142 : flW RX11 142 5 1 ∈ TB := TB_t1 89 rfl (by decide +kernel)
set_option maxRecDepth 100000 in
theorem fl_X3_94 : flW RX3 94 5 1 ∈ TB := TB_t1 90 rfl (by decide +kernel)
set_option maxRecDepth 100000 in
theorem fl_X5_17 : flW RX5 17 5 2 ∈ TB := TB_t1 91 rfl (by decide +kernel)
set_option maxRecDepth 100000 in
theorem fl_X1_32 : flW RX1 32 5 2 ∈ TB := TB_t1 92 rfl (by decide +kernel)
set_option maxRecDepth 100000 in
theorem fl_X2_43 : flW RX2 43 5 2 ∈ TB := TB_t1 93 rfl (by decide +kernel)
set_option maxRecDepth 100000 in
theorem fl_X6_39 : flW RX6 39 5 2 ∈ TB := TB_t1 94 rfl (by decide +kernel)
set_option maxRecDepth 100000 in
theorem fl_X8_36 : flW RX8 36 5 2 ∈ TB := TB_t1 95 rfl (by decide +kernel)
set_option maxRecDepth 100000 in
theorem fl_X0_41 : flW RX0 41 5 2 ∈ TB := TB_t1 96 rfl (by decide +kernel)
set_option maxRecDepth 100000 in
theorem fl_X4_114 : flW RX4 114 5 2 ∈ TB := TB_t1 97 rfl (by decide +kernel)
set_option maxRecDepth 100000 in
theorem fl_X11_145 : flW RX11 145 5 2 ∈ TB := TB_t1 98 rfl (by decide +kernel)
set_option maxRecDepth 100000 in
theorem fl_X3_81 : flW RX3 81 5 2 ∈ TB := TB_t1 99 rfl (by decide +kernel)
set_option maxRecDepth 100000 in
theorem fl_X5_20 : flW RX5 20 5 3 ∈ TB := TB_t1 100 rfl (by decide +kernel)
set_option maxRecDepth 100000 in
theorem fl_X6_51 : flW RX6 51 5 3 ∈ TB := TB_t1 101 rfl (by decide +kernel)
set_option maxRecDepth 100000 in
theorem fl_X0_49 : flW RX0 49 5 3 ∈ TB := TB_t1 102 rfl (by decide +kernel)
set_option maxRecDepth 100000 in
theorem fl_X2_62 : flW RX2 62 5 3 ∈ TB := TB_t1 103 rfl (by decide +kernel)
set_option maxRecDepth 100000 in
theorem fl_X1_71 : flW RX1 71 5 3 ∈ TB := TB_t1 104 rfl (by decide +kernel)
set_option maxRecDepth 100000 in
theorem fl_X8_68 : flW RX8 68 5 3 ∈ TB := TB_t1 105 rfl (by decide +kernel)
set_option maxRecDepth 100000 in
theorem fl_X4_120 : flW RX4 120 5 3 ∈ TB := TB_t1 106 rfl (by decide +kernel)
set_option maxRecDepth 100000 in
theorem fl_X11_155 : flW RX11 155 5 3 ∈ TB := TB_t1 107 rfl (by decide +kernel)
set_option maxRecDepth 100000 in
theorem fl_X3_88 : flW RX3 88 5 3 ∈ TB := TB_t1 108 rfl (by decide +kernel)
set_option maxRecDepth 100000 in
theorem fl_X5_23 : flW RX5 23 5 4 ∈ TB := TB_t1 109 rfl (by decide +kernel)
set_option maxRecDepth 100000 in
theorem fl_X11_158 : flW RX11 158 5 4 ∈ TB := TB_t1 110 rfl (by decide +kernel)
set_option maxRecDepth 100000 in
theorem fl_X5_26 : flW RX5 26 5 5 ∈ TB := TB_t1 111 rfl (by decide +kernel)
set_option maxRecDepth 100000 in
theorem fl_X2_51 : flW RX2 51 5 5 ∈ TB := TB_t1 112 rfl (by decide +kernel)
set_option maxRecDepth 100000 in
theorem fl_X11_152 : flW RX11 152 5 5 ∈ TB := TB_t1 113 rfl (by decide +kernel)
set_option maxRecDepth 100000 in
theorem fl_X3_85 : flW RX3 85 5 5 ∈ TB := TB_t1 114 rfl (by decide +kernel)
set_option maxRecDepth 100000 in
theorem fl_X3_34 : flW RX3 34 3 0 ∈ TB := TB_t1 137 rfl (by decide +kernel)
set_option maxRecDepth 100000 in
theorem fl_X11_181 : flW RX11 181 3 0 ∈ TB := TB_t1 138 rfl (by decide +kernel)
set_option maxRecDepth 100000 in
theorem fl_X3_9 : flW RX3 9 3 1 ∈ TB := TB_t1 139 rfl (by decide +kernel)
set_option maxRecDepth 100000 in
theorem fl_X3_15 : flW RX3 15 3 2 ∈ TB := TB_t1 140 rfl (by decide +kernel)
set_option maxRecDepth 100000 in
theorem fl_X3_38 : flW RX3 38 3 3 ∈ TB := TB_t1 141 rfl (by decide +kernel)
set_option maxRecDepth 100000 in
theorem fl_X10_32 : flW RX10 32 3 3 ∈ TB := TB_t1 142 rfl (by decide +kernel)
set_option maxRecDepth 100000 in
theorem fl_X11_187 : flW RX11 187 3 3 ∈ TB := TB_t1 143 rfl (by decide +kernel)
set_option maxRecDepth 100000 in
theorem fl_X3_19 : flW RX3 19 3 4 ∈ TB := TB_t1 144 rfl (by decide +kernel)
set_option maxRecDepth 100000 in
theorem fl_X3_22 : flW RX3 22 3 5 ∈ TB := TB_t1 145 rfl (by decide +kernel)
set_option maxRecDepth 100000 in
theorem fl_X3_25 : flW RX3 25 3 6 ∈ TB := TB_t1 146 rfl (by decide +kernel)
set_option maxRecDepth 100000 in
theorem fl_X3_41 : flW RX3 41 3 7 ∈ TB := TB_t1 147 rfl (by decide +kernel)
set_option maxRecDepth 100000 in
theorem fl_X4_147 : flW RX4 147 3 7 ∈ TB := TB_t1 148 rfl (by decide +kernel)
set_option maxRecDepth 100000 in
theorem fl_X3_44 : flW RX3 44 3 8 ∈ TB := TB_t1 149 rfl (by decide +kernel)
set_option maxRecDepth 100000 in
theorem fl_X11_190 : flW RX11 190 3 8 ∈ TB := TB_t1 150 rfl (by decide +kernel)
set_option maxRecDepth 100000 in
theorem fl_X3_28 : flW RX3 28 3 9 ∈ TB := TB_t1 151 rfl (by decide +kernel)
set_option maxRecDepth 100000 in
theorem fl_X3_31 : flW RX3 31 3 10 ∈ TB := TB_t1 152 rfl (by decide +kernel)
set_option maxRecDepth 100000 in
theorem fl_X10_12 : flW RX10 12 10 0 ∈ TB := TB_t1 176 rfl (by decide +kernel)
set_option maxRecDepth 100000 in
theorem fl_X4_46 : flW RX4 46 10 0 ∈ TB := TB_t1 177 rfl (by decide +kernel)
set_option maxRecDepth 100000 in
theorem fl_X11_114 : flW RX11 114 10 0 ∈ TB := TB_t1 178 rfl (by decide +kernel)
set_option maxRecDepth 100000 in
theorem fl_X10_20 : flW RX10 20 10 1 ∈ TB := TB_t1 179 rfl (by decide +kernel)
set_option maxRecDepth 100000 in
theorem fl_X4_125 : flW RX4 125 10 1 ∈ TB := TB_t1 180 rfl (by decide +kernel)
set_option maxRecDepth 100000 in
theorem fl_X11_171 : flW RX11 171 10 1 ∈ TB := TB_t1 181 rfl (by decide +kernel)
set_option maxRecDepth 100000 in
theorem fl_X10_28 : flW RX10 28 10 2 ∈ TB := TB_t1 182 rfl (by decide +kernel)
set_option maxRecDepth 100000 in
theorem fl_X11_120 : flW RX11 120 10 2 ∈ TB := TB_t1 183 rfl (by decide +kernel)
set_option maxRecDepth 100000 in
theorem fl_X4_122 : flW RX4 122 10 2 ∈ TB := TB_t1 184 rfl (by decide +kernel)
set_option maxRecDepth 100000 in
theorem fl_X4_12 : flW RX4 12 4 0 ∈ TB := TB_t1 192 rfl (by decide +kernel)
set_option maxRecDepth 100000 in
theorem fl_X11_108 : flW RX11 108 4 0 ∈ TB := TB_t1 193 rfl (by decide +kernel)
set_option maxRecDepth 100000 in
theorem fl_X4_21 : flW RX4 21 4 1 ∈ TB := TB_t1 194 rfl (by decide +kernel)
set_option maxRecDepth 100000 in
theorem fl_X4_25 : flW RX4 25 4 2 ∈ TB := TB_t1 195 rfl (by decide +kernel)
set_option maxRecDepth 100000 in
theorem fl_X11_99 : flW RX11 99 4 2 ∈ TB := TB_t1 196 rfl (by decide +kernel)
set_option maxRecDepth 100000 in
theorem fl_X4_28 : flW RX4 28 4 3 ∈ TB := TB_t1 197 rfl (by decide +kernel)
set_option maxRecDepth 100000 in
theorem fl_X11_105 : flW RX11 105 4 3 ∈ TB := TB_t1 198 rfl (by decide +kernel)
set_option maxRecDepth 100000 in
theorem fl_X4_36 : flW RX4 36 4 4 ∈ TB := TB_t1 199 rfl (by decide +kernel)
set_option maxRecDepth 100000 in
theorem fl_X11_111 : flW RX11 111 4 4 ∈ TB := TB_t1 200 rfl (by decide +kernel)
set_option maxRecDepth 100000 in
theorem fl_X1_9 : flW RX1 9 1 0 ∈ TB := TB_t1 225 rfl (by decide +kernel)
set_option maxRecDepth 100000 in
theorem fl_X2_12 : flW RX2 12 2 0 ∈ TB := TB_t1 237 rfl (by decide +kernel)
set_option maxRecDepth 100000 in
theorem fl_X2_18 : flW RX2 18 2 1 ∈ TB := TB_t1 238 rfl (by decide +kernel)
set_option maxRecDepth 100000 in
theorem fl_X6_12 : flW RX6 12 6 0 ∈ TB := TB_t2 12 rfl (by decide +kernel)
set_option maxRecDepth 100000 in
theorem fl_X6_22 : flW RX6 22 6 1 ∈ TB := TB_t2 13 rfl (by decide +kernel)
set_option maxRecDepth 100000 in
theorem fl_X6_26 : flW RX6 26 6 2 ∈ TB := TB_t2 14 rfl (by decide +kernel)
set_option maxRecDepth 100000 in
theorem fl_X8_29 : flW RX8 29 8 0 ∈ TB := TB_t2 28 rfl (by decide +kernel)
set_option maxRecDepth 100000 in
theorem fl_X8_19 : flW RX8 19 8 1 ∈ TB := TB_t2 29 rfl (by decide +kernel)
set_option maxRecDepth 100000 in
theorem fl_X8_15 : flW RX8 15 8 2 ∈ TB := TB_t2 30 rfl (by decide +kernel)
set_option maxRecDepth 100000 in
theorem fl_X8_57 : flW RX8 57 8 3 ∈ TB := TB_t2 31 rfl (by decide +kernel)
set_option maxRecDepth 100000 in
theorem fl_X0_9 : flW RX0 9 0 0 ∈ TB := TB_t2 47 rfl (by decide +kernel)
set_option maxRecDepth 100000 in
theorem fl_X0_15 : flW RX0 15 0 1 ∈ TB := TB_t2 48 rfl (by decide +kernel)
set_option maxRecDepth 100000 in
theorem fl_X7_15 : flW RX7 15 7 0 ∈ TB := TB_t2 59 rfl (by decide +kernel)
set_option maxRecDepth 100000 in
theorem fl_X11_268 : flW RX11 268 7 0 ∈ TB := TB_t2 60 rfl (by decide +kernel)
set_option maxRecDepth 100000 in
theorem fl_X7_19 : flW RX7 19 7 1 ∈ TB := TB_t2 61 rfl (by decide +kernel)
set_option maxRecDepth 100000 in
theorem fl_X11_249 : flW RX11 249 7 1 ∈ TB := TB_t2 62 rfl (by decide +kernel)
set_option maxRecDepth 100000 in
theorem fl_X7_32 : flW RX7 32 7 2 ∈ TB := TB_t2 63 rfl (by decide +kernel)
set_option maxRecDepth 100000 in
theorem fl_X11_272 : flW RX11 272 7 2 ∈ TB := TB_t2 64 rfl (by decide +kernel)
set_option maxRecDepth 100000 in
theorem fl_X7_9 : flW RX7 9 7 3 ∈ TB := TB_t2 65 rfl (by decide +kernel)
set_option maxRecDepth 100000 in
theorem fl_X11_258 : flW RX11 258 7 3 ∈ TB := TB_t2 66 rfl (by decide +kernel)
set_option maxRecDepth 100000 in
theorem fl_X11_10 : flW RX11 10 11 0 ∈ TB := TB_t2 76 rfl (by decide +kernel)
set_option maxRecDepth 100000 in
theorem fl_X11_19 : flW RX11 19 11 1 ∈ TB := TB_t2 77 rfl (by decide +kernel)
set_option maxRecDepth 100000 in
theorem fl_X11_26 : flW RX11 26 11 2 ∈ TB := TB_t2 78 rfl (by decide +kernel)
set_option maxRecDepth 100000 in
theorem fl_X11_102 : flW RX11 102 11 3 ∈ TB := TB_t2 79 rfl (by decide +kernel)
set_option maxRecDepth 100000 in
theorem fl_X11_32 : flW RX11 32 11 4 ∈ TB := TB_t2 80 rfl (by decide +kernel)
set_option maxRecDepth 100000 in
theorem fl_X11_36 : flW RX11 36 11 5 ∈ TB := TB_t2 81 rfl (by decide +kernel)
set_option maxRecDepth 100000 in
theorem fl_X11_42 : flW RX11 42 11 6 ∈ TB := TB_t2 82 rfl (by decide +kernel)
set_option maxRecDepth 100000 in
theorem fl_X11_262 : flW RX11 262 11 7 ∈ TB := TB_t2 83 rfl (by decide +kernel)
set_option maxRecDepth 100000 in
theorem fl_X11_47 : flW RX11 47 11 8 ∈ TB := TB_t2 84 rfl (by decide +kernel)
set_option maxRecDepth 100000 in
theorem fl_X11_54 : flW RX11 54 11 9 ∈ TB := TB_t2 85 rfl (by decide +kernel)
set_option maxRecDepth 100000 in
theorem fl_X11_61 : flW RX11 61 11 10 ∈ TB := TB_t2 86 rfl (by decide +kernel)
set_option maxRecDepth 100000 in
theorem fl_X11_68 : flW RX11 68 11 11 ∈ TB := TB_t2 87 rfl (by decide +kernel)
set_option maxRecDepth 100000 in
theorem fl_X11_75 : flW RX11 75 11 12 ∈ TB := TB_t2 88 rfl (by decide +kernel)
set_option maxRecDepth 100000 in
theorem fl_X11_82 : flW RX11 82 11 13 ∈ TB := TB_t2 89 rfl (by decide +kernel)
set_option maxRecDepth 100000 in
theorem fl_X12_7 : flW RX12 7 12 0 ∈ TB := TB_t4 203 rfl (by decide +kernel)
set_option maxRecDepth 100000 in
theorem fl_X12_13 : flW RX12 13 12 1 ∈ TB := TB_t4 204 rfl (by decide +kernel)
set_option maxRecDepth 100000 in
theorem fl_X12_166 : flW RX12 166 12 2 ∈ TB := TB_t4 205 rfl (by decide +kernel)
set_option maxRecDepth 100000 in
theorem fl_X12_16 : flW RX12 16 12 3 ∈ TB := TB_t4 206 rfl (by decide +kernel)
set_option maxRecDepth 100000 in
theorem fl_X12_136 : flW RX12 136 12 4 ∈ TB := TB_t4 207 rfl (by decide +kernel)
set_option maxRecDepth 100000 in
theorem fl_X12_19 : flW RX12 19 12 5 ∈ TB := TB_t4 208 rfl (by decide +kernel)
set_option maxRecDepth 100000 in
theorem fl_X12_65 : flW RX12 65 12 6 ∈ TB := TB_t4 209 rfl (by decide +kernel)
set_option maxRecDepth 100000 in
theorem fl_X12_159 : flW RX12 159 12 7 ∈ TB := TB_t4 210 rfl (by decide +kernel)
set_option maxRecDepth 100000 in
theorem fl_X12_69 : flW RX12 69 12 8 ∈ TB := TB_t4 211 rfl (by decide +kernel)
set_option maxRecDepth 100000 in
theorem fl_X12_75 : flW RX12 75 12 9 ∈ TB := TB_t4 212 rfl (by decide +kernel)
set_option maxRecDepth 100000 in
theorem fl_X12_81 : flW RX12 81 12 10 ∈ TB := TB_t4 213 rfl (by decide +kernel)
set_option maxRecDepth 100000 in
theorem fl_X12_72 : flW RX12 72 12 11 ∈ TB := TB_t4 214 rfl (by decide +kernel)
set_option maxRecDepth 100000 in
theorem fl_X12_78 : flW RX12 78 12 12 ∈ TB := TB_t4 215 rfl (by decide +kernel)
set_option maxRecDepth 100000 in
theorem fl_X12_88 : flW RX12 88 12 13 ∈ TB := TB_t4 216 rfl (by decide +kernel)
set_option maxRecDepth 100000 in
theorem fl_X12_111 : flW RX12 111 12 14 ∈ TB := TB_t4 217 rfl (by decide +kernel)
set_option maxRecDepth 100000 in
theorem fl_X12_22 : flW RX12 22 12 15 ∈ TB := TB_t4 218 rfl (by decide +kernel)
set_option maxRecDepth 100000 in
theorem fl_X12_25 : flW RX12 25 12 16 ∈ TB := TB_t4 219 rfl (by decide +kernel)
set_option maxRecDepth 100000 in
theorem fl_X12_28 : flW RX12 28 12 17 ∈ TB := TB_t4 220 rfl (by decide +kernel)
set_option maxRecDepth 100000 in
theorem fl_X12_31 : flW RX12 31 12 18 ∈ TB := TB_t4 221 rfl (by decide +kernel)
set_option maxRecDepth 100000 in
theorem fl_X12_34 : flW RX12 34 12 19 ∈ TB := TB_t4 222 rfl (by decide +kernel)
set_option maxRecDepth 100000 in
theorem fl_X12_37 : flW RX12 37 12 20 ∈ TB := TB_t4 223 rfl (by decide +kernel)
set_option maxRecDepth 100000 in
theorem fl_X12_40 : flW RX12 40 12 21 ∈ TB := TB_t4 224 rfl (by decide +kernel)
set_option maxRecDepth 100000 in
theorem fl_X12_270 : flW RX12 270 12 22 ∈ TB := TB_t4 225 rfl (by decide +kernel)
set_option maxRecDepth 100000 in
theorem fl_X12_43 : flW RX12 43 12 23 ∈ TB := TB_t4 226 rfl (by decide +kernel)
set_option maxRecDepth 100000 in
theorem fl_X12_47 : flW RX12 47 12 24 ∈ TB := TB_t4 227 rfl (by decide +kernel)
set_option maxRecDepth 100000 in
theorem fl_X12_50 : flW RX12 50 12 25 ∈ TB := TB_t4 228 rfl (by decide +kernel)
set_option maxRecDepth 100000 in
theorem fl_X12_53 : flW RX12 53 12 26 ∈ TB := TB_t4 229 rfl (by decide +kernel)
set_option maxRecDepth 100000 in
theorem fl_X12_56 : flW RX12 56 12 27 ∈ TB := TB_t4 230 rfl (by decide +kernel)
set_option maxRecDepth 100000 in
theorem fl_X12_304 : flW RX12 304 12 28 ∈ TB := TB_t4 231 rfl (by decide +kernel)
set_option maxRecDepth 100000 in
theorem ml_L_9 : Cond.methodLink RL 9 yX11_init ∈ TB := TB_t1 23 rfl (by decide +kernel)
set_option maxRecDepth 100000 in
theorem ml_X11_1 : Cond.methodLink RX11 1 Lib.objectInit ∈ TB := TB_t1 26 rfl (by decide +kernel)
set_option maxRecDepth 100000 in
theorem ml_X9_3 : Cond.methodLink RX9 3 Lib.objectInit ∈ TB := TB_t1 34 rfl (by decide +kernel)
set_option maxRecDepth 100000 in
theorem ml_X4_3 : Cond.methodLink RX4 3 Lib.objectInit ∈ TB := TB_t1 60 rfl (by decide +kernel)
set_option maxRecDepth 100000 in
theorem ml_X4_11 : Cond.methodLink RX4 11 yX10_init ∈ TB := TB_t1 63 rfl (by decide +kernel)
set_option maxRecDepth 100000 in
theorem ml_X10_3 : Cond.methodLink RX10 3 Lib.objectInit ∈ TB := TB_t1 66 rfl (by decide +kernel)
set_option maxRecDepth 100000 in
theorem ml_X5_3 : Cond.methodLink RX5 3 Lib.objectInit ∈ TB := TB_t1 72 rfl (by decide +kernel)
set_option maxRecDepth 100000 in
theorem ml_X3_3 : Cond.methodLink RX3 3 Lib.objectInit ∈ TB := TB_t1 136 rfl (by decide +kernel)
set_option maxRecDepth 100000 in
theorem ml_X11_25 : Cond.methodLink RX11 25 yX10_init ∈ TB := TB_t1 213 rfl (by decide +kernel)
set_option maxRecDepth 100000 in
theorem ml_X1_3 : Cond.methodLink RX1 3 Lib.objectInit ∈ TB := TB_t1 224 rfl (by decide +kernel)
set_option maxRecDepth 100000 in
theorem ml_X2_3 : Cond.methodLink RX2 3 Lib.objectInit ∈ TB := TB_t1 234 rfl (by decide +kernel)
set_option maxRecDepth 100000 in
theorem ml_X6_3 : Cond.methodLink RX6 3 Lib.objectInit ∈ TB := TB_t2 9 rfl (by decide +kernel)
set_option maxRecDepth 100000 in
theorem ml_X8_3 : Cond.methodLink RX8 3 Lib.objectInit ∈ TB := TB_t2 27 rfl (by decide +kernel)
set_option maxRecDepth 100000 in
theorem ml_X0_3 : Cond.methodLink RX0 3 Lib.objectInit ∈ TB := TB_t2 46 rfl (by decide +kernel)
set_option maxRecDepth 100000 in
theorem ml_X7_3 : Cond.methodLink RX7 3 Lib.objectInit ∈ TB := TB_t2 58 rfl (by decide +kernel)
set_option maxRecDepth 100000 in
theorem ml_L_13 : Cond.methodLink RL 13 yX11_feed ∈ TB := TB_t2 119 rfl (by decide +kernel)
set_option maxRecDepth 100000 in
theorem ml_X11_87 : Cond.methodLink RX11 87 yX9_put ∈ TB := TB_t2 123 rfl (by decide +kernel)
set_option maxRecDepth 100000 in
theorem ml_L_18 : Cond.methodLink RL 18 yX11_end ∈ TB := TB_t2 127 rfl (by decide +kernel)
set_option maxRecDepth 100000 in
theorem ml_L_22 : Cond.methodLink RL 22 yX11_text ∈ TB := TB_t2 131 rfl (by decide +kernel)
set_option maxRecDepth 100000 in
theorem ml_X11_95 : Cond.methodLink RX11 95 yX4_takes ∈ TB := TB_t2 135 rfl (by decide +kernel)
set_option maxRecDepth 100000 in
theorem ml_X4_18 : Cond.methodLink RX4 18 yX10_clear ∈ TB := TB_t2 139 rfl (by decide +kernel)
set_option maxRecDepth 100000 in
theorem ml_X10_25 : Cond.methodLink RX10 25 yX5_clear ∈ TB := TB_t2 143 rfl (by decide +kernel)
set_option maxRecDepth 100000 in
theorem ml_X5_33 : Cond.methodLink RX5 33 yJ7_fill_53178 ∈ TB := TB_t2 147 rfl (by decide +kernel)
set_option maxRecDepth 100000 in
theorem ml_X4_31 : Cond.methodLink RX4 31 yX9_rewind ∈ TB := TB_t2 150 rfl (by decide +kernel)
set_option maxRecDepth 100000 in
theorem ml_X9_22 : Cond.methodLink RX9 22 yX9_advance ∈ TB := TB_t2 154 rfl (by decide +kernel)
set_option maxRecDepth 100000 in
theorem ml_X4_42 : Cond.methodLink RX4 42 yX4_takeLine ∈ TB := TB_t2 158 rfl (by decide +kernel)
set_option maxRecDepth 100000 in
theorem ml_X4_64 : Cond.methodLink RX4 64 yX9_isName ∈ TB := TB_t2 163 rfl (by decide +kernel)
set_option maxRecDepth 100000 in
theorem ml_X9_31 : Cond.methodLink RX9 31 yJ0_length_8abf5 ∈ TB := TB_t2 167 rfl (by decide +kernel)
set_option maxRecDepth 100000 in
theorem ml_J0_335 : Cond.methodLink RJ0 335 yJ0_coder_7d493 ∈ TB := TB_t2 171 rfl (by decide +kernel)
set_option maxRecDepth 100000 in
theorem ml_X9_36 : Cond.methodLink RX9 36 yJ0_charAt_5068e ∈ TB := TB_t2 177 rfl (by decide +kernel)
set_option maxRecDepth 100000 in
theorem ml_J0_492 : Cond.methodLink RJ0 492 yJ0_isLatin1_aae02 ∈ TB := TB_t2 181 rfl (by decide +kernel)
set_option maxRecDepth 100000 in
theorem ml_J0_495 : Cond.methodLink RJ0 495 yJ1_charAt_3b067 ∈ TB := TB_t2 185 rfl (by decide +kernel)
set_option maxRecDepth 100000 in
theorem ml_J1_9 : Cond.methodLink RJ1 9 yJ0_checkIndex_df160 ∈ TB := TB_t2 188 rfl (by decide +kernel)
set_option maxRecDepth 100000 in
theorem ml_J0_1059 : Cond.methodLink RJ0 1059 yJ3_checkIndex_8e157 ∈ TB := TB_t2 193 rfl (by decide +kernel)
set_option maxRecDepth 100000 in
theorem ml_J0_498 : Cond.methodLink RJ0 498 yJ2_charAt_3b067 ∈ TB := TB_t2 196 rfl (by decide +kernel)
set_option maxRecDepth 100000 in
theorem ml_J2_67 : Cond.methodLink RJ2 67 yJ2_checkIndex_2214a ∈ TB := TB_t2 199 rfl (by decide +kernel)
set_option maxRecDepth 100000 in
theorem ml_J2_48 : Cond.methodLink RJ2 48 yJ2_length_9d52b ∈ TB := TB_t2 202 rfl (by decide +kernel)
set_option maxRecDepth 100000 in
theorem ml_J2_414 : Cond.methodLink RJ2 414 yJ0_checkIndex_df160 ∈ TB := TB_t2 205 rfl (by decide +kernel)
set_option maxRecDepth 100000 in
theorem ml_J2_71 : Cond.methodLink RJ2 71 yJ2_getChar_3b067 ∈ TB := TB_t2 206 rfl (by decide +kernel)
set_option maxRecDepth 100000 in
theorem ml_X4_68 : Cond.methodLink RX4 68 yX4_takeNode ∈ TB := TB_t2 215 rfl (by decide +kernel)
set_option maxRecDepth 100000 in
theorem ml_X4_92 : Cond.methodLink RX4 92 yX5_isFull ∈ TB := TB_t2 219 rfl (by decide +kernel)
set_option maxRecDepth 100000 in
theorem ml_X4_55 : Cond.methodLink RX4 55 yX4_refuse ∈ TB := TB_t2 223 rfl (by decide +kernel)
set_option maxRecDepth 100000 in
theorem ml_X4_96 : Cond.methodLink RX4 96 yX5_append ∈ TB := TB_t2 227 rfl (by decide +kernel)
set_option maxRecDepth 100000 in
theorem ml_X4_100 : Cond.methodLink RX4 100 yX9_advance ∈ TB := TB_t2 231 rfl (by decide +kernel)
set_option maxRecDepth 100000 in
theorem ml_X4_103 : Cond.methodLink RX4 103 yX4_takeSign ∈ TB := TB_t2 232 rfl (by decide +kernel)
set_option maxRecDepth 100000 in
theorem ml_X4_140 : Cond.methodLink RX4 140 yX9_isSign ∈ TB := TB_t2 236 rfl (by decide +kernel)
set_option maxRecDepth 100000 in
theorem ml_X4_89 : Cond.methodLink RX4 89 yX4_refuseToken ∈ TB := TB_t3 0 rfl (by decide +kernel)
set_option maxRecDepth 100000 in
theorem ml_X4_76 : Cond.methodLink RX4 76 yX4_takeAt ∈ TB := TB_t3 6 rfl (by decide +kernel)
set_option maxRecDepth 100000 in
theorem ml_X4_107 : Cond.methodLink RX4 107 yX4_takeVariable ∈ TB := TB_t3 10 rfl (by decide +kernel)
set_option maxRecDepth 100000 in
theorem ml_X4_150 : Cond.methodLink RX4 150 yX9_oneOfThree ∈ TB := TB_t3 14 rfl (by decide +kernel)
set_option maxRecDepth 100000 in
theorem ml_X4_111 : Cond.methodLink RX4 111 yX4_takeNodeNumber ∈ TB := TB_t3 18 rfl (by decide +kernel)
set_option maxRecDepth 100000 in
theorem ml_X4_188 : Cond.methodLink RX4 188 yX9_number ∈ TB := TB_t3 22 rfl (by decide +kernel)
set_option maxRecDepth 100000 in
theorem ml_X4_192 : Cond.methodLink RX4 192 Lib.Math.max.name ∈ TB := TB_t3 26 rfl (by decide +kernel)
set_option maxRecDepth 100000 in
theorem ml_X4_117 : Cond.methodLink RX4 117 yX4_takeTruth ∈ TB := TB_t3 29 rfl (by decide +kernel)
set_option maxRecDepth 100000 in
theorem ml_X4_81 : Cond.methodLink RX4 81 yX4_takeNext ∈ TB := TB_t3 34 rfl (by decide +kernel)
set_option maxRecDepth 100000 in
theorem ml_X4_86 : Cond.methodLink RX4 86 yX4_takeAsk ∈ TB := TB_t3 39 rfl (by decide +kernel)
set_option maxRecDepth 100000 in
theorem ml_X4_129 : Cond.methodLink RX4 129 yX3_clear ∈ TB := TB_t3 43 rfl (by decide +kernel)
set_option maxRecDepth 100000 in
theorem ml_X4_136 : Cond.methodLink RX4 136 yX4_tellLetter ∈ TB := TB_t3 49 rfl (by decide +kernel)
set_option maxRecDepth 100000 in
theorem ml_X4_154 : Cond.methodLink RX4 154 yX3_placeOf ∈ TB := TB_t3 53 rfl (by decide +kernel)
set_option maxRecDepth 100000 in
theorem ml_X4_158 : Cond.methodLink RX4 158 yX3_putLetter ∈ TB := TB_t3 57 rfl (by decide +kernel)
set_option maxRecDepth 100000 in
theorem ml_X4_144 : Cond.methodLink RX4 144 yX4_takeItem ∈ TB := TB_t3 61 rfl (by decide +kernel)
set_option maxRecDepth 100000 in
theorem ml_X4_162 : Cond.methodLink RX4 162 yX4_itemKind ∈ TB := TB_t3 65 rfl (by decide +kernel)
set_option maxRecDepth 100000 in
theorem ml_X4_165 : Cond.methodLink RX4 165 yX3_isFull ∈ TB := TB_t3 73 rfl (by decide +kernel)
set_option maxRecDepth 100000 in
theorem ml_X4_166 : Cond.methodLink RX4 166 yX3_hasEnoughFor ∈ TB := TB_t3 77 rfl (by decide +kernel)
set_option maxRecDepth 100000 in
theorem ml_X3_47 : Cond.methodLink RX3 47 yX3_taken ∈ TB := TB_t3 81 rfl (by decide +kernel)
set_option maxRecDepth 100000 in
theorem ml_X4_170 : Cond.methodLink RX4 170 yX4_takeLetter ∈ TB := TB_t3 84 rfl (by decide +kernel)
set_option maxRecDepth 100000 in
theorem ml_X4_174 : Cond.methodLink RX4 174 yX3_putItem ∈ TB := TB_t3 88 rfl (by decide +kernel)
set_option maxRecDepth 100000 in
theorem ml_X3_51 : Cond.methodLink RX3 51 yX3_isFull ∈ TB := TB_t3 92 rfl (by decide +kernel)
set_option maxRecDepth 100000 in
theorem ml_X3_55 : Cond.methodLink RX3 55 Lib.Math.max.name ∈ TB := TB_t3 93 rfl (by decide +kernel)
set_option maxRecDepth 100000 in
theorem ml_L_27 : Cond.methodLink RL 27 yX11_fault ∈ TB := TB_t3 94 rfl (by decide +kernel)
set_option maxRecDepth 100000 in
theorem ml_L_31 : Cond.methodLink RL 31 yX11_rule ∈ TB := TB_t3 98 rfl (by decide +kernel)
set_option maxRecDepth 100000 in
theorem ml_X11_123 : Cond.methodLink RX11 123 yX5_manys ∈ TB := TB_t3 102 rfl (by decide +kernel)
set_option maxRecDepth 100000 in
theorem ml_X11_127 : Cond.methodLink RX11 127 yX5_atsThatAre ∈ TB := TB_t3 106 rfl (by decide +kernel)
set_option maxRecDepth 100000 in
theorem ml_X5_58 : Cond.methodLink RX5 58 yX5_cellsThatAre ∈ TB := TB_t3 110 rfl (by decide +kernel)
set_option maxRecDepth 100000 in
theorem ml_X11_131 : Cond.methodLink RX11 131 yX5_nextsThatAre ∈ TB := TB_t3 114 rfl (by decide +kernel)
set_option maxRecDepth 100000 in
theorem ml_X11_134 : Cond.methodLink RX11 134 yX5_isHeap ∈ TB := TB_t3 118 rfl (by decide +kernel)
set_option maxRecDepth 100000 in
theorem ml_X5_62 : Cond.methodLink RX5 62 yX5_manys ∈ TB := TB_t3 122 rfl (by decide +kernel)
set_option maxRecDepth 100000 in
theorem ml_X5_66 : Cond.methodLink RX5 66 yX5_atsThatAre ∈ TB := TB_t3 123 rfl (by decide +kernel)
set_option maxRecDepth 100000 in
theorem ml_X5_70 : Cond.methodLink RX5 70 yX5_nextsThatAre ∈ TB := TB_t3 124 rfl (by decide +kernel)
set_option maxRecDepth 100000 in
theorem ml_L_35 : Cond.methodLink RL 35 yX11_node ∈ TB := TB_t3 125 rfl (by decide +kernel)
set_option maxRecDepth 100000 in
theorem ml_X11_138 : Cond.methodLink RX11 138 yX5_has ∈ TB := TB_t3 129 rfl (by decide +kernel)
set_option maxRecDepth 100000 in
theorem ml_X11_149 : Cond.methodLink RX11 149 yX5_trace ∈ TB := TB_t3 133 rfl (by decide +kernel)
set_option maxRecDepth 100000 in
theorem ml_X5_39 : Cond.methodLink RX5 39 arraycopyName ∈ TB := TB_t3 137 rfl (by decide +kernel)
set_option maxRecDepth 100000 in
theorem ml_X5_73 : Cond.methodLink RX5 73 Lib.Math.min.name ∈ TB := TB_t3 140 rfl (by decide +kernel)
set_option maxRecDepth 100000 in
theorem ml_X5_52 : Cond.methodLink RX5 52 Lib.Math.max.name ∈ TB := TB_t3 143 rfl (by decide +kernel)
set_option maxRecDepth 100000 in
theorem ml_X5_76 : Cond.methodLink RX5 76 yX5_reaching ∈ TB := TB_t3 144 rfl (by decide +kernel)
set_option maxRecDepth 100000 in
theorem ml_X5_79 : Cond.methodLink RX5 79 yX5_sameness ∈ TB := TB_t3 148 rfl (by decide +kernel)
set_option maxRecDepth 100000 in
theorem ml_L_40 : Cond.methodLink RL 40 yX11_pair ∈ TB := TB_t3 152 rfl (by decide +kernel)
set_option maxRecDepth 100000 in
theorem ml_X11_161 : Cond.methodLink RX11 161 yX5_sameness ∈ TB := TB_t3 156 rfl (by decide +kernel)
set_option maxRecDepth 100000 in
theorem ml_L_45 : Cond.methodLink RL 45 yX11_held ∈ TB := TB_t3 157 rfl (by decide +kernel)
set_option maxRecDepth 100000 in
theorem ml_X11_165 : Cond.methodLink RX11 165 yX11_isVariable ∈ TB := TB_t3 161 rfl (by decide +kernel)
set_option maxRecDepth 100000 in
theorem ml_X11_168 : Cond.methodLink RX11 168 yX5_holding ∈ TB := TB_t3 164 rfl (by decide +kernel)
set_option maxRecDepth 100000 in
theorem ml_L_49 : Cond.methodLink RL 49 yX11_ask ∈ TB := TB_t3 168 rfl (by decide +kernel)
set_option maxRecDepth 100000 in
theorem ml_X11_175 : Cond.methodLink RX11 175 yX3_worth ∈ TB := TB_t3 172 rfl (by decide +kernel)
set_option maxRecDepth 100000 in
theorem ml_X3_61 : Cond.methodLink RX3 61 yX3_worthFrom ∈ TB := TB_t3 176 rfl (by decide +kernel)
set_option maxRecDepth 100000 in
theorem ml_X3_65 : Cond.methodLink RX3 65 yX3_worthOfItems ∈ TB := TB_t3 180 rfl (by decide +kernel)
set_option maxRecDepth 100000 in
theorem ml_X3_74 : Cond.methodLink RX3 74 Lib.Math.min.name ∈ TB := TB_t3 184 rfl (by decide +kernel)
set_option maxRecDepth 100000 in
theorem ml_X3_77 : Cond.methodLink RX3 77 yX3_truthOf ∈ TB := TB_t3 185 rfl (by decide +kernel)
set_option maxRecDepth 100000 in
theorem ml_X3_91 : Cond.methodLink RX3 91 yX5_sameness ∈ TB := TB_t3 189 rfl (by decide +kernel)
set_option maxRecDepth 100000 in
theorem ml_L_53 : Cond.methodLink RL 53 yX11_formula ∈ TB := TB_t3 190 rfl (by decide +kernel)
set_option maxRecDepth 100000 in
theorem ml_X11_184 : Cond.methodLink RX11 184 yX3_allBits ∈ TB := TB_t3 194 rfl (by decide +kernel)
set_option maxRecDepth 100000 in
theorem ml_L_57 : Cond.methodLink RL 57 yX11_add ∈ TB := TB_t3 198 rfl (by decide +kernel)
set_option maxRecDepth 100000 in
theorem ml_X11_193 : Cond.methodLink RX11 193 yX11_isSwitch ∈ TB := TB_t3 202 rfl (by decide +kernel)
set_option maxRecDepth 100000 in
theorem ml_X11_196 : Cond.methodLink RX11 196 yX5_isFull ∈ TB := TB_t3 205 rfl (by decide +kernel)
set_option maxRecDepth 100000 in
theorem ml_X11_199 : Cond.methodLink RX11 199 yX5_append ∈ TB := TB_t3 206 rfl (by decide +kernel)
set_option maxRecDepth 100000 in
theorem ml_L_61 : Cond.methodLink RL 61 yX11_lose ∈ TB := TB_t3 207 rfl (by decide +kernel)
set_option maxRecDepth 100000 in
theorem ml_X11_203 : Cond.methodLink RX11 203 yX5_drop ∈ TB := TB_t3 211 rfl (by decide +kernel)
set_option maxRecDepth 100000 in
theorem ml_X5_45 : Cond.methodLink RX5 45 yX5_has ∈ TB := TB_t3 215 rfl (by decide +kernel)
set_option maxRecDepth 100000 in
theorem ml_X5_49 : Cond.methodLink RX5 49 yX5_closeGap ∈ TB := TB_t3 216 rfl (by decide +kernel)
set_option maxRecDepth 100000 in
theorem ml_L_65 : Cond.methodLink RL 65 yX11_many ∈ TB := TB_t3 219 rfl (by decide +kernel)
set_option maxRecDepth 100000 in
theorem ml_L_69 : Cond.methodLink RL 69 yX11_place ∈ TB := TB_t3 223 rfl (by decide +kernel)
set_option maxRecDepth 100000 in
theorem ml_X11_207 : Cond.methodLink RX11 207 yX11_isTruth ∈ TB := TB_t3 227 rfl (by decide +kernel)
set_option maxRecDepth 100000 in
theorem ml_L_73 : Cond.methodLink RL 73 yX11_lead ∈ TB := TB_t3 230 rfl (by decide +kernel)
set_option maxRecDepth 100000 in
theorem ml_L_77 : Cond.methodLink RL 77 yX11_deed ∈ TB := TB_t3 234 rfl (by decide +kernel)
set_option maxRecDepth 100000 in
theorem ml_X11_210 : Cond.methodLink RX11 210 yX1_perform ∈ TB := TB_t3 238 rfl (by decide +kernel)
set_option maxRecDepth 100000 in
theorem ml_X1_19 : Cond.methodLink RX1 19 yX1_looksAtOther ∈ TB := TB_t4 3 rfl (by decide +kernel)
set_option maxRecDepth 100000 in
theorem ml_X1_22 : Cond.methodLink RX1 22 yX5_isFull ∈ TB := TB_t4 6 rfl (by decide +kernel)
set_option maxRecDepth 100000 in
theorem ml_X1_28 : Cond.methodLink RX1 28 yX1_answerAhead ∈ TB := TB_t4 7 rfl (by decide +kernel)
set_option maxRecDepth 100000 in
theorem ml_X1_67 : Cond.methodLink RX1 67 yX5_holding ∈ TB := TB_t4 10 rfl (by decide +kernel)
set_option maxRecDepth 100000 in
theorem ml_X1_36 : Cond.methodLink RX1 36 yJ7_fill_53178 ∈ TB := TB_t4 11 rfl (by decide +kernel)
set_option maxRecDepth 100000 in
theorem ml_X1_42 : Cond.methodLink RX1 42 arraycopyName ∈ TB := TB_t4 12 rfl (by decide +kernel)
set_option maxRecDepth 100000 in
theorem ml_X1_48 : Cond.methodLink RX1 48 yX1_follow ∈ TB := TB_t4 13 rfl (by decide +kernel)
set_option maxRecDepth 100000 in
theorem ml_X1_74 : Cond.methodLink RX1 74 Lib.Math.min.name ∈ TB := TB_t4 17 rfl (by decide +kernel)
set_option maxRecDepth 100000 in
theorem ml_X1_80 : Cond.methodLink RX1 80 Lib.Math.max.name ∈ TB := TB_t4 18 rfl (by decide +kernel)
set_option maxRecDepth 100000 in
theorem ml_X1_52 : Cond.methodLink RX1 52 yX1_cut ∈ TB := TB_t4 19 rfl (by decide +kernel)
set_option maxRecDepth 100000 in
theorem ml_X1_56 : Cond.methodLink RX1 56 yX1_link ∈ TB := TB_t4 22 rfl (by decide +kernel)
set_option maxRecDepth 100000 in
theorem ml_X1_63 : Cond.methodLink RX1 63 yX5_append ∈ TB := TB_t4 25 rfl (by decide +kernel)
set_option maxRecDepth 100000 in
theorem ml_L_81 : Cond.methodLink RL 81 yX11_fold ∈ TB := TB_t4 26 rfl (by decide +kernel)
set_option maxRecDepth 100000 in
theorem ml_X11_214 : Cond.methodLink RX11 214 yX2_apply ∈ TB := TB_t4 30 rfl (by decide +kernel)
set_option maxRecDepth 100000 in
theorem ml_X2_22 : Cond.methodLink RX2 22 yX5_trace ∈ TB := TB_t4 34 rfl (by decide +kernel)
set_option maxRecDepth 100000 in
theorem ml_X2_25 : Cond.methodLink RX2 25 yX5_clear ∈ TB := TB_t4 35 rfl (by decide +kernel)
set_option maxRecDepth 100000 in
theorem ml_X2_32 : Cond.methodLink RX2 32 yX2_joinGroup ∈ TB := TB_t4 36 rfl (by decide +kernel)
set_option maxRecDepth 100000 in
theorem ml_X2_47 : Cond.methodLink RX2 47 yX2_alike ∈ TB := TB_t4 40 rfl (by decide +kernel)
set_option maxRecDepth 100000 in
theorem ml_X2_58 : Cond.methodLink RX2 58 yX5_append ∈ TB := TB_t4 43 rfl (by decide +kernel)
set_option maxRecDepth 100000 in
theorem ml_X2_36 : Cond.methodLink RX2 36 yX2_mergeNexts ∈ TB := TB_t4 44 rfl (by decide +kernel)
set_option maxRecDepth 100000 in
theorem ml_X2_40 : Cond.methodLink RX2 40 yX5_copy ∈ TB := TB_t4 48 rfl (by decide +kernel)
set_option maxRecDepth 100000 in
theorem ml_L_85 : Cond.methodLink RL 85 yX11_sharpen ∈ TB := TB_t4 52 rfl (by decide +kernel)
set_option maxRecDepth 100000 in
theorem ml_X11_218 : Cond.methodLink RX11 218 yX6_apply ∈ TB := TB_t4 56 rfl (by decide +kernel)
set_option maxRecDepth 100000 in
theorem ml_X6_18 : Cond.methodLink RX6 18 yX5_copy ∈ TB := TB_t4 60 rfl (by decide +kernel)
set_option maxRecDepth 100000 in
theorem ml_X6_30 : Cond.methodLink RX6 30 yX6_drawFromAts ∈ TB := TB_t4 61 rfl (by decide +kernel)
set_option maxRecDepth 100000 in
theorem ml_X6_43 : Cond.methodLink RX6 43 yX6_makeSingle ∈ TB := TB_t4 65 rfl (by decide +kernel)
set_option maxRecDepth 100000 in
theorem ml_X6_47 : Cond.methodLink RX6 47 yX6_clearOthers ∈ TB := TB_t4 69 rfl (by decide +kernel)
set_option maxRecDepth 100000 in
theorem ml_X6_33 : Cond.methodLink RX6 33 yX6_drawFromNexts ∈ TB := TB_t4 73 rfl (by decide +kernel)
set_option maxRecDepth 100000 in
theorem ml_L_89 : Cond.methodLink RL 89 yX11_ways ∈ TB := TB_t4 77 rfl (by decide +kernel)
set_option maxRecDepth 100000 in
theorem ml_X11_220 : Cond.methodLink RX11 220 yX8_number ∈ TB := TB_t4 81 rfl (by decide +kernel)
set_option maxRecDepth 100000 in
theorem ml_X8_9 : Cond.methodLink RX8 9 yX8_goThrough ∈ TB := TB_t4 85 rfl (by decide +kernel)
set_option maxRecDepth 100000 in
theorem ml_X8_60 : Cond.methodLink RX8 60 yX5_holding ∈ TB := TB_t4 89 rfl (by decide +kernel)
set_option maxRecDepth 100000 in
theorem ml_X8_64 : Cond.methodLink RX8 64 yX8_meet ∈ TB := TB_t4 90 rfl (by decide +kernel)
set_option maxRecDepth 100000 in
theorem ml_L_93 : Cond.methodLink RL 93 yX11_split ∈ TB := TB_t4 94 rfl (by decide +kernel)
set_option maxRecDepth 100000 in
theorem ml_X11_224 : Cond.methodLink RX11 224 yX8_apply ∈ TB := TB_t4 98 rfl (by decide +kernel)
set_option maxRecDepth 100000 in
theorem ml_X8_23 : Cond.methodLink RX8 23 yX5_isFull ∈ TB := TB_t4 102 rfl (by decide +kernel)
set_option maxRecDepth 100000 in
theorem ml_X8_32 : Cond.methodLink RX8 32 yX8_appendOthersOf ∈ TB := TB_t4 103 rfl (by decide +kernel)
set_option maxRecDepth 100000 in
theorem ml_X8_71 : Cond.methodLink RX8 71 arraycopyName ∈ TB := TB_t4 106 rfl (by decide +kernel)
set_option maxRecDepth 100000 in
theorem ml_X8_77 : Cond.methodLink RX8 77 yX5_append ∈ TB := TB_t4 107 rfl (by decide +kernel)
set_option maxRecDepth 100000 in
theorem ml_X8_40 : Cond.methodLink RX8 40 yJ7_fill_53178 ∈ TB := TB_t4 108 rfl (by decide +kernel)
set_option maxRecDepth 100000 in
theorem ml_X8_46 : Cond.methodLink RX8 46 yX5_has ∈ TB := TB_t4 109 rfl (by decide +kernel)
set_option maxRecDepth 100000 in
theorem ml_L_97 : Cond.methodLink RL 97 yX11_run ∈ TB := TB_t4 110 rfl (by decide +kernel)
set_option maxRecDepth 100000 in
theorem ml_L_101 : Cond.methodLink RL 101 yX11_keep ∈ TB := TB_t4 115 rfl (by decide +kernel)
set_option maxRecDepth 100000 in
theorem ml_X11_228 : Cond.methodLink RX11 228 yX11_isImage ∈ TB := TB_t4 119 rfl (by decide +kernel)
set_option maxRecDepth 100000 in
theorem ml_X11_231 : Cond.methodLink RX11 231 yX5_copy ∈ TB := TB_t4 122 rfl (by decide +kernel)
set_option maxRecDepth 100000 in
theorem ml_L_105 : Cond.methodLink RL 105 yX11_back ∈ TB := TB_t4 123 rfl (by decide +kernel)
set_option maxRecDepth 100000 in
theorem ml_L_109 : Cond.methodLink RL 109 yX11_covers ∈ TB := TB_t4 127 rfl (by decide +kernel)
set_option maxRecDepth 100000 in
theorem ml_X11_235 : Cond.methodLink RX11 235 yX0_holds ∈ TB := TB_t4 131 rfl (by decide +kernel)
set_option maxRecDepth 100000 in
theorem ml_X0_18 : Cond.methodLink RX0 18 yJ7_fill_53178 ∈ TB := TB_t4 135 rfl (by decide +kernel)
set_option maxRecDepth 100000 in
theorem ml_X0_30 : Cond.methodLink RX0 30 yX0_tellFrom ∈ TB := TB_t4 136 rfl (by decide +kernel)
set_option maxRecDepth 100000 in
theorem ml_X0_34 : Cond.methodLink RX0 34 yX0_fits ∈ TB := TB_t4 140 rfl (by decide +kernel)
set_option maxRecDepth 100000 in
theorem ml_X0_45 : Cond.methodLink RX0 45 yX0_allows ∈ TB := TB_t4 144 rfl (by decide +kernel)
set_option maxRecDepth 100000 in
theorem ml_L_113 : Cond.methodLink RL 113 yX11_sheet ∈ TB := TB_t4 147 rfl (by decide +kernel)
set_option maxRecDepth 100000 in
theorem ml_X11_239 : Cond.methodLink RX11 239 yX11_isSheet ∈ TB := TB_t4 151 rfl (by decide +kernel)
set_option maxRecDepth 100000 in
theorem ml_X11_242 : Cond.methodLink RX11 242 yX11_isLane ∈ TB := TB_t4 154 rfl (by decide +kernel)
set_option maxRecDepth 100000 in
theorem ml_X11_245 : Cond.methodLink RX11 245 yX7_renew ∈ TB := TB_t4 157 rfl (by decide +kernel)
set_option maxRecDepth 100000 in
theorem ml_X7_23 : Cond.methodLink RX7 23 Lib.Math.min.name ∈ TB := TB_t4 161 rfl (by decide +kernel)
set_option maxRecDepth 100000 in
theorem ml_X7_29 : Cond.methodLink RX7 29 Lib.Math.max.name ∈ TB := TB_t4 162 rfl (by decide +kernel)
set_option maxRecDepth 100000 in
theorem ml_X7_35 : Cond.methodLink RX7 35 yJ7_fill_53178 ∈ TB := TB_t4 163 rfl (by decide +kernel)
set_option maxRecDepth 100000 in
theorem ml_L_117 : Cond.methodLink RL 117 yX11_lay ∈ TB := TB_t4 164 rfl (by decide +kernel)
set_option maxRecDepth 100000 in
theorem ml_X11_252 : Cond.methodLink RX11 252 yX7_findTaken ∈ TB := TB_t4 168 rfl (by decide +kernel)
set_option maxRecDepth 100000 in
theorem ml_X11_256 : Cond.methodLink RX11 256 yX7_put ∈ TB := TB_t4 172 rfl (by decide +kernel)
set_option maxRecDepth 100000 in
theorem ml_X7_41 : Cond.methodLink RX7 41 yX7_findTaken ∈ TB := TB_t4 176 rfl (by decide +kernel)
set_option maxRecDepth 100000 in
theorem ml_L_121 : Cond.methodLink RL 121 yX11_read ∈ TB := TB_t4 177 rfl (by decide +kernel)
set_option maxRecDepth 100000 in
theorem ml_L_126 : Cond.methodLink RL 126 yX11_torn ∈ TB := TB_t4 181 rfl (by decide +kernel)
set_option maxRecDepth 100000 in
theorem ml_L_130 : Cond.methodLink RL 130 yX11_count ∈ TB := TB_t4 185 rfl (by decide +kernel)
set_option maxRecDepth 100000 in
theorem ml_X11_265 : Cond.methodLink RX11 265 yX11_imagesKept ∈ TB := TB_t4 189 rfl (by decide +kernel)
set_option maxRecDepth 100000 in
theorem ml_X11_273 : Cond.methodLink RX11 273 yX10_itemsOfAll ∈ TB := TB_t4 193 rfl (by decide +kernel)
set_option maxRecDepth 100000 in
theorem ml_L_12 : Cond.methodLink RL 12 yX12_init ∈ TB := TB_t4 199 rfl (by decide +kernel)
set_option maxRecDepth 100000 in
theorem ml_X12_1 : Cond.methodLink RX12 1 Lib.objectInit ∈ TB := TB_t4 202 rfl (by decide +kernel)
set_option maxRecDepth 100000 in
theorem ml_L_17 : Cond.methodLink RL 17 yX12_feed ∈ TB := TB_t5 51 rfl (by decide +kernel)
set_option maxRecDepth 100000 in
theorem ml_X12_61 : Cond.methodLink RX12 61 yX12_in ∈ TB := TB_t5 56 rfl (by decide +kernel)
set_option maxRecDepth 100000 in
theorem ml_L_21 : Cond.methodLink RL 21 yX12_end ∈ TB := TB_t5 59 rfl (by decide +kernel)
set_option maxRecDepth 100000 in
theorem ml_L_26 : Cond.methodLink RL 26 yX12_text ∈ TB := TB_t5 63 rfl (by decide +kernel)
set_option maxRecDepth 100000 in
theorem ml_X12_108 : Cond.methodLink RX12 108 yX12_readsOn ∈ TB := TB_t5 67 rfl (by decide +kernel)
set_option maxRecDepth 100000 in
theorem ml_X12_84 : Cond.methodLink RX12 84 yX12_byteAt ∈ TB := TB_t5 71 rfl (by decide +kernel)
set_option maxRecDepth 100000 in
theorem ml_X12_99 : Cond.methodLink RX12 99 yX12_fails ∈ TB := TB_t5 79 rfl (by decide +kernel)
set_option maxRecDepth 100000 in
theorem ml_X12_156 : Cond.methodLink RX12 156 yX12_readLine ∈ TB := TB_t5 83 rfl (by decide +kernel)
set_option maxRecDepth 100000 in
theorem ml_X12_114 : Cond.methodLink RX12 114 yX12_nameHere ∈ TB := TB_t5 87 rfl (by decide +kernel)
set_option maxRecDepth 100000 in
theorem ml_X12_146 : Cond.methodLink RX12 146 yX12_readNode ∈ TB := TB_t5 91 rfl (by decide +kernel)
set_option maxRecDepth 100000 in
theorem ml_X12_149 : Cond.methodLink RX12 149 yX12_readTold ∈ TB := TB_t5 95 rfl (by decide +kernel)
set_option maxRecDepth 100000 in
theorem ml_X12_118 : Cond.methodLink RX12 118 yX12_variableRead ∈ TB := TB_t5 99 rfl (by decide +kernel)
set_option maxRecDepth 100000 in
theorem ml_X12_105 : Cond.methodLink RX12 105 yX12_letterRead ∈ TB := TB_t5 103 rfl (by decide +kernel)
set_option maxRecDepth 100000 in
theorem ml_X12_121 : Cond.methodLink RX12 121 yX12_nodeRead ∈ TB := TB_t5 108 rfl (by decide +kernel)
set_option maxRecDepth 100000 in
theorem ml_X12_124 : Cond.methodLink RX12 124 yX12_truthRead ∈ TB := TB_t5 112 rfl (by decide +kernel)
set_option maxRecDepth 100000 in
theorem ml_X12_153 : Cond.methodLink RX12 153 yX12_readAsk ∈ TB := TB_t5 116 rfl (by decide +kernel)
set_option maxRecDepth 100000 in
theorem ml_X12_139 : Cond.methodLink RX12 139 yX12_readLetters ∈ TB := TB_t5 120 rfl (by decide +kernel)
set_option maxRecDepth 100000 in
theorem ml_X12_142 : Cond.methodLink RX12 142 yX12_readItem ∈ TB := TB_t5 124 rfl (by decide +kernel)
set_option maxRecDepth 100000 in
theorem ml_X12_131 : Cond.methodLink RX12 131 yX12_toldRead ∈ TB := TB_t5 130 rfl (by decide +kernel)
set_option maxRecDepth 100000 in
theorem ml_X12_162 : Cond.methodLink RX12 162 yX12_copies ∈ TB := TB_t5 135 rfl (by decide +kernel)
set_option maxRecDepth 100000 in
theorem ml_L_30 : Cond.methodLink RL 30 yX12_fault ∈ TB := TB_t5 139 rfl (by decide +kernel)
set_option maxRecDepth 100000 in
theorem ml_L_34 : Cond.methodLink RL 34 yX12_rule ∈ TB := TB_t5 143 rfl (by decide +kernel)
set_option maxRecDepth 100000 in
theorem ml_X12_169 : Cond.methodLink RX12 169 yX12_nodes ∈ TB := TB_t5 147 rfl (by decide +kernel)
set_option maxRecDepth 100000 in
theorem ml_X12_184 : Cond.methodLink RX12 184 yX12_manyOf ∈ TB := TB_t5 151 rfl (by decide +kernel)
set_option maxRecDepth 100000 in
theorem ml_X12_188 : Cond.methodLink RX12 188 yX12_isHeap ∈ TB := TB_t5 155 rfl (by decide +kernel)
set_option maxRecDepth 100000 in
theorem ml_L_39 : Cond.methodLink RL 39 yX12_node ∈ TB := TB_t5 159 rfl (by decide +kernel)
set_option maxRecDepth 100000 in
theorem ml_X12_192 : Cond.methodLink RX12 192 yX12_isNode ∈ TB := TB_t5 163 rfl (by decide +kernel)
set_option maxRecDepth 100000 in
theorem ml_X12_198 : Cond.methodLink RX12 198 yX12_routesAll ∈ TB := TB_t5 168 rfl (by decide +kernel)
set_option maxRecDepth 100000 in
theorem ml_X12_172 : Cond.methodLink RX12 172 yX12_and ∈ TB := TB_t5 172 rfl (by decide +kernel)
set_option maxRecDepth 100000 in
theorem ml_X12_175 : Cond.methodLink RX12 175 yX12_or ∈ TB := TB_t5 175 rfl (by decide +kernel)
set_option maxRecDepth 100000 in
theorem ml_X12_178 : Cond.methodLink RX12 178 yX12_atOf ∈ TB := TB_t5 178 rfl (by decide +kernel)
set_option maxRecDepth 100000 in
theorem ml_X12_201 : Cond.methodLink RX12 201 yX12_reachOf ∈ TB := TB_t5 182 rfl (by decide +kernel)
set_option maxRecDepth 100000 in
theorem ml_X12_181 : Cond.methodLink RX12 181 yX12_sameOf ∈ TB := TB_t5 186 rfl (by decide +kernel)
set_option maxRecDepth 100000 in
theorem ml_L_44 : Cond.methodLink RL 44 yX12_pair ∈ TB := TB_t5 190 rfl (by decide +kernel)
set_option maxRecDepth 100000 in
theorem ml_X12_204 : Cond.methodLink RX12 204 yX12_nextOf ∈ TB := TB_t5 194 rfl (by decide +kernel)
set_option maxRecDepth 100000 in
theorem ml_L_48 : Cond.methodLink RL 48 yX12_held ∈ TB := TB_t5 198 rfl (by decide +kernel)
set_option maxRecDepth 100000 in
theorem ml_X12_207 : Cond.methodLink RX12 207 yX12_isVariable ∈ TB := TB_t5 202 rfl (by decide +kernel)
set_option maxRecDepth 100000 in
theorem ml_X12_210 : Cond.methodLink RX12 210 yX12_heldOf ∈ TB := TB_t5 205 rfl (by decide +kernel)
set_option maxRecDepth 100000 in
theorem ml_L_52 : Cond.methodLink RL 52 yX12_ask ∈ TB := TB_t5 209 rfl (by decide +kernel)
set_option maxRecDepth 100000 in
theorem ml_X12_229 : Cond.methodLink RX12 229 yX12_isFormula ∈ TB := TB_t5 213 rfl (by decide +kernel)
set_option maxRecDepth 100000 in
theorem ml_X12_216 : Cond.methodLink RX12 216 yX12_itemsOf ∈ TB := TB_t5 217 rfl (by decide +kernel)
set_option maxRecDepth 100000 in
theorem ml_X12_213 : Cond.methodLink RX12 213 yX12_told ∈ TB := TB_t5 221 rfl (by decide +kernel)
set_option maxRecDepth 100000 in
theorem ml_X12_219 : Cond.methodLink RX12 219 yX12_begins ∈ TB := TB_t5 225 rfl (by decide +kernel)
set_option maxRecDepth 100000 in
theorem ml_X12_232 : Cond.methodLink RX12 232 yX12_secondOf ∈ TB := TB_t5 229 rfl (by decide +kernel)
set_option maxRecDepth 100000 in
theorem ml_X12_226 : Cond.methodLink RX12 226 yX12_thirdOf ∈ TB := TB_t5 233 rfl (by decide +kernel)
set_option maxRecDepth 100000 in
theorem ml_X12_222 : Cond.methodLink RX12 222 yX12_joined ∈ TB := TB_t5 237 rfl (by decide +kernel)
set_option maxRecDepth 100000 in
theorem ml_L_56 : Cond.methodLink RL 56 yX12_formula ∈ TB := TB_t6 1 rfl (by decide +kernel)
set_option maxRecDepth 100000 in
theorem ml_L_60 : Cond.methodLink RL 60 yX12_add ∈ TB := TB_t6 5 rfl (by decide +kernel)
set_option maxRecDepth 100000 in
theorem ml_X12_235 : Cond.methodLink RX12 235 yX12_isFlag ∈ TB := TB_t6 9 rfl (by decide +kernel)
set_option maxRecDepth 100000 in
theorem ml_X12_238 : Cond.methodLink RX12 238 yX12_comes ∈ TB := TB_t6 12 rfl (by decide +kernel)
set_option maxRecDepth 100000 in
theorem ml_L_64 : Cond.methodLink RL 64 yX12_lose ∈ TB := TB_t6 16 rfl (by decide +kernel)
set_option maxRecDepth 100000 in
theorem ml_X12_241 : Cond.methodLink RX12 241 yX12_movesDown ∈ TB := TB_t6 20 rfl (by decide +kernel)
set_option maxRecDepth 100000 in
theorem ml_L_68 : Cond.methodLink RL 68 yX12_many ∈ TB := TB_t6 24 rfl (by decide +kernel)
set_option maxRecDepth 100000 in
theorem ml_X12_244 : Cond.methodLink RX12 244 yX12_becomes ∈ TB := TB_t6 28 rfl (by decide +kernel)
set_option maxRecDepth 100000 in
theorem ml_L_72 : Cond.methodLink RL 72 yX12_place ∈ TB := TB_t6 32 rfl (by decide +kernel)
set_option maxRecDepth 100000 in
theorem ml_L_76 : Cond.methodLink RL 76 yX12_lead ∈ TB := TB_t6 36 rfl (by decide +kernel)
set_option maxRecDepth 100000 in
theorem ml_L_80 : Cond.methodLink RL 80 yX12_deed ∈ TB := TB_t6 40 rfl (by decide +kernel)
set_option maxRecDepth 100000 in
theorem ml_X12_260 : Cond.methodLink RX12 260 yX12_does ∈ TB := TB_t6 44 rfl (by decide +kernel)
set_option maxRecDepth 100000 in
theorem ml_X12_250 : Cond.methodLink RX12 250 yX12_isAtAlone ∈ TB := TB_t6 49 rfl (by decide +kernel)
set_option maxRecDepth 100000 in
theorem ml_X12_253 : Cond.methodLink RX12 253 yX12_becomesNext ∈ TB := TB_t6 53 rfl (by decide +kernel)
set_option maxRecDepth 100000 in
theorem ml_X12_256 : Cond.methodLink RX12 256 yX12_leads ∈ TB := TB_t6 57 rfl (by decide +kernel)
set_option maxRecDepth 100000 in
theorem ml_L_84 : Cond.methodLink RL 84 yX12_fold ∈ TB := TB_t6 61 rfl (by decide +kernel)
set_option maxRecDepth 100000 in
theorem ml_X12_267 : Cond.methodLink RX12 267 yX12_grouped ∈ TB := TB_t6 65 rfl (by decide +kernel)
set_option maxRecDepth 100000 in
theorem ml_X12_263 : Cond.methodLink RX12 263 yX12_isAlike ∈ TB := TB_t6 69 rfl (by decide +kernel)
set_option maxRecDepth 100000 in
theorem ml_L_88 : Cond.methodLink RL 88 yX12_sharpen ∈ TB := TB_t6 73 rfl (by decide +kernel)
set_option maxRecDepth 100000 in
theorem ml_X12_278 : Cond.methodLink RX12 278 yX12_isSharper ∈ TB := TB_t6 77 rfl (by decide +kernel)
set_option maxRecDepth 100000 in
theorem ml_X12_274 : Cond.methodLink RX12 274 yX12_isAlone ∈ TB := TB_t6 81 rfl (by decide +kernel)
set_option maxRecDepth 100000 in
theorem ml_L_92 : Cond.methodLink RL 92 yX12_ways ∈ TB := TB_t6 85 rfl (by decide +kernel)
set_option maxRecDepth 100000 in
theorem ml_X12_281 : Cond.methodLink RX12 281 yX12_wayOf ∈ TB := TB_t6 89 rfl (by decide +kernel)
set_option maxRecDepth 100000 in
theorem ml_L_96 : Cond.methodLink RL 96 yX12_split ∈ TB := TB_t6 93 rfl (by decide +kernel)
set_option maxRecDepth 100000 in
theorem ml_X12_284 : Cond.methodLink RX12 284 yX12_twins ∈ TB := TB_t6 97 rfl (by decide +kernel)
set_option maxRecDepth 100000 in
theorem ml_L_100 : Cond.methodLink RL 100 yX12_run ∈ TB := TB_t6 101 rfl (by decide +kernel)
set_option maxRecDepth 100000 in
theorem ml_L_104 : Cond.methodLink RL 104 yX12_keep ∈ TB := TB_t6 107 rfl (by decide +kernel)
set_option maxRecDepth 100000 in
theorem ml_L_108 : Cond.methodLink RL 108 yX12_back ∈ TB := TB_t6 111 rfl (by decide +kernel)
set_option maxRecDepth 100000 in
theorem ml_L_112 : Cond.methodLink RL 112 yX12_covers ∈ TB := TB_t6 115 rfl (by decide +kernel)
set_option maxRecDepth 100000 in
theorem ml_X12_299 : Cond.methodLink RX12 299 yX12_isCovering ∈ TB := TB_t6 119 rfl (by decide +kernel)
set_option maxRecDepth 100000 in
theorem ml_X12_293 : Cond.methodLink RX12 293 yX12_isFitting ∈ TB := TB_t6 123 rfl (by decide +kernel)
set_option maxRecDepth 100000 in
theorem ml_X12_290 : Cond.methodLink RX12 290 yX12_isLike ∈ TB := TB_t6 127 rfl (by decide +kernel)
set_option maxRecDepth 100000 in
theorem ml_X12_296 : Cond.methodLink RX12 296 yX12_isOnto ∈ TB := TB_t6 131 rfl (by decide +kernel)
set_option maxRecDepth 100000 in
theorem ml_L_116 : Cond.methodLink RL 116 yX12_sheet ∈ TB := TB_t6 135 rfl (by decide +kernel)
set_option maxRecDepth 100000 in
theorem ml_L_120 : Cond.methodLink RL 120 yX12_lay ∈ TB := TB_t6 139 rfl (by decide +kernel)
set_option maxRecDepth 100000 in
theorem ml_L_125 : Cond.methodLink RL 125 yX12_read ∈ TB := TB_t6 143 rfl (by decide +kernel)
set_option maxRecDepth 100000 in
theorem ml_L_129 : Cond.methodLink RL 129 yX12_torn ∈ TB := TB_t6 148 rfl (by decide +kernel)
set_option maxRecDepth 100000 in
theorem ml_L_133 : Cond.methodLink RL 133 yX12_count ∈ TB := TB_t6 152 rfl (by decide +kernel)
set_option maxRecDepth 100000 in
theorem kc_X11_227 : Cond.constant RX11 227 1103515245 ∈ TB := TB_t4 114 rfl (by decide +kernel)
set_option maxRecDepth 100000 in
theorem kc_X12_289 : Cond.constant RX12 289 1103515245 ∈ TB := TB_t6 106 rfl (by decide +kernel)
set_option maxRecDepth 100000 in
theorem kl_X12_59 : Cond.constantLong RX12 59 127 ∈ TB := TB_t5 55 rfl (by decide +kernel)
set_option maxRecDepth 100000 in
theorem kl_X12_91 : Cond.constantLong RX12 91 97 ∈ TB := TB_t5 75 rfl (by decide +kernel)
set_option maxRecDepth 100000 in
theorem kl_X12_93 : Cond.constantLong RX12 93 122 ∈ TB := TB_t5 76 rfl (by decide +kernel)
set_option maxRecDepth 100000 in
theorem kl_X12_95 : Cond.constantLong RX12 95 48 ∈ TB := TB_t5 77 rfl (by decide +kernel)
set_option maxRecDepth 100000 in
theorem kl_X12_97 : Cond.constantLong RX12 97 57 ∈ TB := TB_t5 78 rfl (by decide +kernel)
set_option maxRecDepth 100000 in
theorem kl_X12_103 : Cond.constantLong RX12 103 2 ∈ TB := TB_t5 107 rfl (by decide +kernel)
set_option maxRecDepth 100000 in
theorem kl_X12_127 : Cond.constantLong RX12 127 7 ∈ TB := TB_t5 128 rfl (by decide +kernel)
set_option maxRecDepth 100000 in
theorem kl_X12_129 : Cond.constantLong RX12 129 4 ∈ TB := TB_t5 129 rfl (by decide +kernel)
set_option maxRecDepth 100000 in
theorem kl_X12_134 : Cond.constantLong RX12 134 3 ∈ TB := TB_t5 134 rfl (by decide +kernel)
set_option maxRecDepth 100000 in
theorem kl_X12_196 : Cond.constantLong RX12 196 6 ∈ TB := TB_t5 167 rfl (by decide +kernel)
set_option maxRecDepth 100000 in
theorem kl_X12_248 : Cond.constantLong RX12 248 5 ∈ TB := TB_t6 48 rfl (by decide +kernel)
set_option maxRecDepth 100000 in
theorem kl_X12_287 : Cond.constantLong RX12 287 20 ∈ TB := TB_t6 105 rfl (by decide +kernel)
set_option maxRecDepth 100000 in
theorem kl_X12_302 : Cond.constantLong RX12 302 13 ∈ TB := TB_t6 147 rfl (by decide +kernel)
set_option maxRecDepth 100000 in
theorem cl_L_7 : Cond.classLink RL 7 "FoldedHeaps" ∈ TB := TB_t1 21 rfl (by decide +kernel)
set_option maxRecDepth 100000 in
theorem cl_X11_7 : Cond.classLink RX11 7 "FoldedHeaps$Tape" ∈ TB := TB_t1 29 rfl (by decide +kernel)
set_option maxRecDepth 100000 in
theorem cl_X11_16 : Cond.classLink RX11 16 "FoldedHeaps$Reader" ∈ TB := TB_t1 55 rfl (by decide +kernel)
set_option maxRecDepth 100000 in
theorem cl_X4_9 : Cond.classLink RX4 9 "FoldedHeaps$Told" ∈ TB := TB_t1 61 rfl (by decide +kernel)
set_option maxRecDepth 100000 in
theorem cl_X10_9 : Cond.classLink RX10 9 "FoldedHeaps$Shape" ∈ TB := TB_t1 67 rfl (by decide +kernel)
set_option maxRecDepth 100000 in
theorem cl_X5_15 : Cond.classLink RX5 15 "[[I" ∈ TB := TB_t1 73 rfl (by decide +kernel)
set_option maxRecDepth 100000 in
theorem cl_X10_18 : Cond.classLink RX10 18 "FoldedHeaps$Formula" ∈ TB := TB_t1 130 rfl (by decide +kernel)
set_option maxRecDepth 100000 in
theorem cl_X11_23 : Cond.classLink RX11 23 "FoldedHeaps$Told" ∈ TB := TB_t1 212 rfl (by decide +kernel)
set_option maxRecDepth 100000 in
theorem cl_X11_30 : Cond.classLink RX11 30 "FoldedHeaps$Shape" ∈ TB := TB_t1 214 rfl (by decide +kernel)
set_option maxRecDepth 100000 in
theorem cl_X11_40 : Cond.classLink RX11 40 "FoldedHeaps$Sheet" ∈ TB := TB_t1 216 rfl (by decide +kernel)
set_option maxRecDepth 100000 in
theorem cl_X11_51 : Cond.classLink RX11 51 "FoldedHeaps$Deeds" ∈ TB := TB_t1 219 rfl (by decide +kernel)
set_option maxRecDepth 100000 in
theorem cl_X11_58 : Cond.classLink RX11 58 "FoldedHeaps$Folding" ∈ TB := TB_t1 229 rfl (by decide +kernel)
set_option maxRecDepth 100000 in
theorem cl_X2_9 : Cond.classLink RX2 9 "FoldedHeaps$Shape" ∈ TB := TB_t1 235 rfl (by decide +kernel)
set_option maxRecDepth 100000 in
theorem cl_X11_65 : Cond.classLink RX11 65 "FoldedHeaps$Sharpening" ∈ TB := TB_t2 4 rfl (by decide +kernel)
set_option maxRecDepth 100000 in
theorem cl_X6_9 : Cond.classLink RX6 9 "FoldedHeaps$Shape" ∈ TB := TB_t2 10 rfl (by decide +kernel)
set_option maxRecDepth 100000 in
theorem cl_X11_72 : Cond.classLink RX11 72 "FoldedHeaps$Splitting" ∈ TB := TB_t2 22 rfl (by decide +kernel)
set_option maxRecDepth 100000 in
theorem cl_X11_79 : Cond.classLink RX11 79 "FoldedHeaps$Cover" ∈ TB := TB_t2 41 rfl (by decide +kernel)
set_option maxRecDepth 100000 in
theorem cl_L_10 : Cond.classLink RL 10 "FoldedHeapsModel" ∈ TB := TB_t4 197 rfl (by decide +kernel)
set_option maxRecDepth 100000 in
theorem in_L : Cond.initialized RL ∈ TB := TB_t1 0 rfl (by decide +kernel)
set_option maxRecDepth 100000 in
theorem in_X11 : Cond.initialized RX11 ∈ TB := TB_t1 1 rfl (by decide +kernel)
set_option maxRecDepth 100000 in
theorem in_X9 : Cond.initialized RX9 ∈ TB := TB_t1 2 rfl (by decide +kernel)
set_option maxRecDepth 100000 in
theorem in_X4 : Cond.initialized RX4 ∈ TB := TB_t1 3 rfl (by decide +kernel)
set_option maxRecDepth 100000 in
theorem in_X10 : Cond.initialized RX10 ∈ TB := TB_t1 4 rfl (by decide +kernel)
set_option maxRecDepth 100000 in
theorem in_X5 : Cond.initialized RX5 ∈ TB := TB_t1 5 rfl (by decide +kernel)
set_option maxRecDepth 100000 in
theorem in_X3 : Cond.initialized RX3 ∈ TB := TB_t1 6 rfl (by decide +kernel)
set_option maxRecDepth 100000 in
theorem in_X1 : Cond.initialized RX1 ∈ TB := TB_t1 7 rfl (by decide +kernel)
set_option maxRecDepth 100000 in
theorem in_X2 : Cond.initialized RX2 ∈ TB := TB_t1 8 rfl (by decide +kernel)
set_option maxRecDepth 100000 in
theorem in_X6 : Cond.initialized RX6 ∈ TB := TB_t1 9 rfl (by decide +kernel)
set_option maxRecDepth 100000 in
theorem in_X8 : Cond.initialized RX8 ∈ TB := TB_t1 10 rfl (by decide +kernel)
set_option maxRecDepth 100000 in
theorem in_X0 : Cond.initialized RX0 ∈ TB := TB_t1 11 rfl (by decide +kernel)
set_option maxRecDepth 100000 in
theorem in_X7 : Cond.initialized RX7 ∈ TB := TB_t1 12 rfl (by decide +kernel)
set_option maxRecDepth 100000 in
theorem in_X12 : Cond.initialized RX12 ∈ TB := TB_t1 13 rfl (by decide +kernel)
set_option maxRecDepth 100000 in
theorem in_J7 : Cond.initialized RJ7 ∈ TB := TB_t1 14 rfl (by decide +kernel)
set_option maxRecDepth 100000 in
theorem in_J0 : Cond.initialized RJ0 ∈ TB := TB_t1 15 rfl (by decide +kernel)
set_option maxRecDepth 100000 in
theorem in_J1 : Cond.initialized RJ1 ∈ TB := TB_t1 16 rfl (by decide +kernel)
set_option maxRecDepth 100000 in
theorem in_J3 : Cond.initialized RJ3 ∈ TB := TB_t1 17 rfl (by decide +kernel)
set_option maxRecDepth 100000 in
theorem in_J2 : Cond.initialized RJ2 ∈ TB := TB_t1 18 rfl (by decide +kernel)
set_option maxRecDepth 100000 in
theorem in_J9 : Cond.initialized RJ9 ∈ TB := TB_t1 19 rfl (by decide +kernel)
set_option maxRecDepth 100000 in
theorem in_J10 : Cond.initialized RJ10 ∈ TB := TB_t1 20 rfl (by decide +kernel)
set_option maxRecDepth 100000 in
theorem ins_X11 : Cond.instantiable RX11 14 ∈ TB := TB_t1 22 rfl (by decide +kernel)
set_option maxRecDepth 100000 in
theorem ins_X9 : Cond.instantiable RX9 5 ∈ TB := TB_t1 30 rfl (by decide +kernel)
set_option maxRecDepth 100000 in
theorem ins_X4 : Cond.instantiable RX4 5 ∈ TB := TB_t1 56 rfl (by decide +kernel)
set_option maxRecDepth 100000 in
theorem ins_X10 : Cond.instantiable RX10 3 ∈ TB := TB_t1 62 rfl (by decide +kernel)
set_option maxRecDepth 100000 in
theorem ins_X5 : Cond.instantiable RX5 6 ∈ TB := TB_t1 68 rfl (by decide +kernel)
set_option maxRecDepth 100000 in
theorem ins_X3 : Cond.instantiable RX3 11 ∈ TB := TB_t1 132 rfl (by decide +kernel)
set_option maxRecDepth 100000 in
theorem ins_X1 : Cond.instantiable RX1 1 ∈ TB := TB_t1 220 rfl (by decide +kernel)
set_option maxRecDepth 100000 in
theorem ins_X2 : Cond.instantiable RX2 2 ∈ TB := TB_t1 230 rfl (by decide +kernel)
set_option maxRecDepth 100000 in
theorem ins_X6 : Cond.instantiable RX6 3 ∈ TB := TB_t2 5 rfl (by decide +kernel)
set_option maxRecDepth 100000 in
theorem ins_X8 : Cond.instantiable RX8 4 ∈ TB := TB_t2 23 rfl (by decide +kernel)
set_option maxRecDepth 100000 in
theorem ins_X0 : Cond.instantiable RX0 2 ∈ TB := TB_t2 42 rfl (by decide +kernel)
set_option maxRecDepth 100000 in
theorem ins_X7 : Cond.instantiable RX7 4 ∈ TB := TB_t2 54 rfl (by decide +kernel)
set_option maxRecDepth 100000 in
theorem ins_X12 : Cond.instantiable RX12 29 ∈ TB := TB_t4 198 rfl (by decide +kernel)
abbrev mX0_init : Md := (yX0_init, cX0_init, 1, none)
set_option maxRecDepth 100000 in
theorem pn_X0_init : (parseMethodDescriptor mX0_init.1.desc).map (fun d => d.parameters.length) = some 0 := by decide +kernel
set_option maxRecDepth 100000 in
theorem ok_X0_init : okI mX0_init := ⟨TB_t2 45 rfl (by decide +kernel), TB_t2 44 rfl (by decide +kernel), in_X0, ⟨by decide +kernel, by decide +kernel⟩, rfl, rfl⟩
abbrev mX0_holds : Md := (yX0_holds, cX0_holds, 3, (some .boolean))
set_option maxRecDepth 100000 in
theorem pn_X0_holds : (parseMethodDescriptor mX0_holds.1.desc).map (fun d => d.parameters.length) = some 2 := by decide +kernel
set_option maxRecDepth 100000 in
theorem ok_X0_holds : okV mX0_holds := ⟨TB_t4 134 rfl (by decide +kernel), TB_t4 132 rfl (by decide +kernel), TB_t4 133 rfl (by decide +kernel), in_X0, ⟨by decide +kernel, by decide +kernel⟩⟩
abbrev mX0_tellFrom : Md := (yX0_tellFrom, cX0_tellFrom, 7, (some .boolean))
set_option maxRecDepth 100000 in
theorem pn_X0_tellFrom : (parseMethodDescriptor mX0_tellFrom.1.desc).map (fun d => d.parameters.length) = some 4 := by decide +kernel
set_option maxRecDepth 100000 in
theorem ok_X0_tellFrom : okV mX0_tellFrom := ⟨TB_t4 139 rfl (by decide +kernel), TB_t4 138 rfl (by decide +kernel), TB_p 27 rfl (by decide +kernel), in_X0, ⟨by decide +kernel, by decide +kernel⟩⟩
abbrev mX0_fits : Md := (yX0_fits, cX0_fits, 7, (some .boolean))
set_option maxRecDepth 100000 in
theorem pn_X0_fits : (parseMethodDescriptor mX0_fits.1.desc).map (fun d => d.parameters.length) = some 4 := by decide +kernel
set_option maxRecDepth 100000 in
theorem ok_X0_fits : okV mX0_fits := ⟨TB_t4 143 rfl (by decide +kernel), TB_t4 142 rfl (by decide +kernel), TB_p 28 rfl (by decide +kernel), in_X0, ⟨by decide +kernel, by decide +kernel⟩⟩
abbrev mX0_allows : Md := (yX0_allows, cX0_allows, 2, (some .boolean))
set_option maxRecDepth 100000 in
theorem pn_X0_allows : (parseMethodDescriptor mX0_allows.1.desc).map (fun d => d.parameters.length) = some 2 := by decide +kernel
set_option maxRecDepth 100000 in
theorem ok_X0_allows : okS mX0_allows := ⟨TB_t4 146 rfl (by decide +kernel), TB_t4 145 rfl (by decide +kernel), in_X0, ⟨by decide +kernel, by decide +kernel⟩⟩
abbrev mX1_init : Md := (yX1_init, cX1_init, 1, none)
set_option maxRecDepth 100000 in
theorem pn_X1_init : (parseMethodDescriptor mX1_init.1.desc).map (fun d => d.parameters.length) = some 0 := by decide +kernel
set_option maxRecDepth 100000 in
theorem ok_X1_init : okI mX1_init := ⟨TB_t1 223 rfl (by decide +kernel), TB_t1 222 rfl (by decide +kernel), in_X1, ⟨by decide +kernel, by decide +kernel⟩, rfl, rfl⟩
abbrev mX1_perform : Md := (yX1_perform, cX1_perform, 6, (some .int))
set_option maxRecDepth 100000 in
theorem pn_X1_perform : (parseMethodDescriptor mX1_perform.1.desc).map (fun d => d.parameters.length) = some 4 := by decide +kernel
set_option maxRecDepth 100000 in
theorem ok_X1_perform : okV mX1_perform := ⟨TB_t4 1 rfl (by decide +kernel), TB_t3 239 rfl (by decide +kernel), TB_t4 0 rfl (by decide +kernel), in_X1, ⟨by decide +kernel, by decide +kernel⟩⟩
abbrev mX1_looksAtOther : Md := (yX1_looksAtOther, cX1_looksAtOther, 1, (some .boolean))
set_option maxRecDepth 100000 in
theorem pn_X1_looksAtOther : (parseMethodDescriptor mX1_looksAtOther.1.desc).map (fun d => d.parameters.length) = some 1 := by decide +kernel
set_option maxRecDepth 100000 in
theorem ok_X1_looksAtOther : okS mX1_looksAtOther := ⟨TB_t4 5 rfl (by decide +kernel), TB_t4 4 rfl (by decide +kernel), in_X1, ⟨by decide +kernel, by decide +kernel⟩⟩
abbrev mX1_answerAhead : Md := (yX1_answerAhead, cX1_answerAhead, 4, (some .int))
set_option maxRecDepth 100000 in
theorem pn_X1_answerAhead : (parseMethodDescriptor mX1_answerAhead.1.desc).map (fun d => d.parameters.length) = some 4 := by decide +kernel
set_option maxRecDepth 100000 in
theorem ok_X1_answerAhead : okS mX1_answerAhead := ⟨TB_t4 9 rfl (by decide +kernel), TB_t4 8 rfl (by decide +kernel), in_X1, ⟨by decide +kernel, by decide +kernel⟩⟩
abbrev mX1_follow : Md := (yX1_follow, cX1_follow, 6, none)
set_option maxRecDepth 100000 in
theorem pn_X1_follow : (parseMethodDescriptor mX1_follow.1.desc).map (fun d => d.parameters.length) = some 3 := by decide +kernel
set_option maxRecDepth 100000 in
theorem ok_X1_follow : okV mX1_follow := ⟨TB_t4 16 rfl (by decide +kernel), TB_t4 15 rfl (by decide +kernel), TB_p 18 rfl (by decide +kernel), in_X1, ⟨by decide +kernel, by decide +kernel⟩⟩
abbrev mX1_cut : Md := (yX1_cut, cX1_cut, 5, none)
set_option maxRecDepth 100000 in
theorem pn_X1_cut : (parseMethodDescriptor mX1_cut.1.desc).map (fun d => d.parameters.length) = some 2 := by decide +kernel
set_option maxRecDepth 100000 in
theorem ok_X1_cut : okS mX1_cut := ⟨TB_t4 21 rfl (by decide +kernel), TB_t4 20 rfl (by decide +kernel), in_X1, ⟨by decide +kernel, by decide +kernel⟩⟩
abbrev mX1_link : Md := (yX1_link, cX1_link, 6, none)
set_option maxRecDepth 100000 in
theorem pn_X1_link : (parseMethodDescriptor mX1_link.1.desc).map (fun d => d.parameters.length) = some 3 := by decide +kernel
set_option maxRecDepth 100000 in
theorem ok_X1_link : okS mX1_link := ⟨TB_t4 24 rfl (by decide +kernel), TB_t4 23 rfl (by decide +kernel), in_X1, ⟨by decide +kernel, by decide +kernel⟩⟩
abbrev mX2_init : Md := (yX2_init, cX2_init, 1, none)
set_option maxRecDepth 100000 in
theorem pn_X2_init : (parseMethodDescriptor mX2_init.1.desc).map (fun d => d.parameters.length) = some 0 := by decide +kernel
set_option maxRecDepth 100000 in
theorem ok_X2_init : okI mX2_init := ⟨TB_t1 233 rfl (by decide +kernel), TB_t1 232 rfl (by decide +kernel), in_X2, ⟨by decide +kernel, by decide +kernel⟩, rfl, rfl⟩
abbrev mX2_apply : Md := (yX2_apply, cX2_apply, 4, none)
set_option maxRecDepth 100000 in
theorem pn_X2_apply : (parseMethodDescriptor mX2_apply.1.desc).map (fun d => d.parameters.length) = some 2 := by decide +kernel
set_option maxRecDepth 100000 in
theorem ok_X2_apply : okV mX2_apply := ⟨TB_t4 33 rfl (by decide +kernel), TB_t4 31 rfl (by decide +kernel), TB_t4 32 rfl (by decide +kernel), in_X2, ⟨by decide +kernel, by decide +kernel⟩⟩
abbrev mX2_joinGroup : Md := (yX2_joinGroup, cX2_joinGroup, 5, none)
set_option maxRecDepth 100000 in
theorem pn_X2_joinGroup : (parseMethodDescriptor mX2_joinGroup.1.desc).map (fun d => d.parameters.length) = some 3 := by decide +kernel
set_option maxRecDepth 100000 in
theorem ok_X2_joinGroup : okV mX2_joinGroup := ⟨TB_t4 39 rfl (by decide +kernel), TB_t4 38 rfl (by decide +kernel), TB_p 19 rfl (by decide +kernel), in_X2, ⟨by decide +kernel, by decide +kernel⟩⟩
abbrev mX2_alike : Md := (yX2_alike, cX2_alike, 4, (some .boolean))
set_option maxRecDepth 100000 in
theorem pn_X2_alike : (parseMethodDescriptor mX2_alike.1.desc).map (fun d => d.parameters.length) = some 3 := by decide +kernel
set_option maxRecDepth 100000 in
theorem ok_X2_alike : okS mX2_alike := ⟨TB_t4 42 rfl (by decide +kernel), TB_t4 41 rfl (by decide +kernel), in_X2, ⟨by decide +kernel, by decide +kernel⟩⟩
abbrev mX2_mergeNexts : Md := (yX2_mergeNexts, cX2_mergeNexts, 6, none)
set_option maxRecDepth 100000 in
theorem pn_X2_mergeNexts : (parseMethodDescriptor mX2_mergeNexts.1.desc).map (fun d => d.parameters.length) = some 1 := by decide +kernel
set_option maxRecDepth 100000 in
theorem ok_X2_mergeNexts : okV mX2_mergeNexts := ⟨TB_t4 47 rfl (by decide +kernel), TB_t4 46 rfl (by decide +kernel), TB_p 20 rfl (by decide +kernel), in_X2, ⟨by decide +kernel, by decide +kernel⟩⟩
abbrev mX3_init : Md := (yX3_init, cX3_init, 1, none)
set_option maxRecDepth 100000 in
theorem pn_X3_init : (parseMethodDescriptor mX3_init.1.desc).map (fun d => d.parameters.length) = some 0 := by decide +kernel
set_option maxRecDepth 100000 in
theorem ok_X3_init : okI mX3_init := ⟨TB_t1 135 rfl (by decide +kernel), TB_t1 134 rfl (by decide +kernel), in_X3, ⟨by decide +kernel, by decide +kernel⟩, rfl, rfl⟩
abbrev mX3_clear : Md := (yX3_clear, cX3_clear, 1, none)
set_option maxRecDepth 100000 in
theorem pn_X3_clear : (parseMethodDescriptor mX3_clear.1.desc).map (fun d => d.parameters.length) = some 0 := by decide +kernel
set_option maxRecDepth 100000 in
theorem ok_X3_clear : okV mX3_clear := ⟨TB_t3 46 rfl (by decide +kernel), TB_t3 44 rfl (by decide +kernel), TB_t3 45 rfl (by decide +kernel), in_X3, ⟨by decide +kernel, by decide +kernel⟩⟩
abbrev mX3_placeOf : Md := (yX3_placeOf, cX3_placeOf, 3, (some .int))
set_option maxRecDepth 100000 in
theorem pn_X3_placeOf : (parseMethodDescriptor mX3_placeOf.1.desc).map (fun d => d.parameters.length) = some 1 := by decide +kernel
set_option maxRecDepth 100000 in
theorem ok_X3_placeOf : okV mX3_placeOf := ⟨TB_t3 56 rfl (by decide +kernel), TB_t3 54 rfl (by decide +kernel), TB_t3 55 rfl (by decide +kernel), in_X3, ⟨by decide +kernel, by decide +kernel⟩⟩
abbrev mX3_putLetter : Md := (yX3_putLetter, cX3_putLetter, 3, none)
set_option maxRecDepth 100000 in
theorem pn_X3_putLetter : (parseMethodDescriptor mX3_putLetter.1.desc).map (fun d => d.parameters.length) = some 2 := by decide +kernel
set_option maxRecDepth 100000 in
theorem ok_X3_putLetter : okV mX3_putLetter := ⟨TB_t3 60 rfl (by decide +kernel), TB_t3 58 rfl (by decide +kernel), TB_t3 59 rfl (by decide +kernel), in_X3, ⟨by decide +kernel, by decide +kernel⟩⟩
abbrev mX3_allBits : Md := (yX3_allBits, cX3_allBits, 3, (some .int))
set_option maxRecDepth 100000 in
theorem pn_X3_allBits : (parseMethodDescriptor mX3_allBits.1.desc).map (fun d => d.parameters.length) = some 0 := by decide +kernel
set_option maxRecDepth 100000 in
theorem ok_X3_allBits : okV mX3_allBits := ⟨TB_t3 197 rfl (by decide +kernel), TB_t3 195 rfl (by decide +kernel), TB_t3 196 rfl (by decide +kernel), in_X3, ⟨by decide +kernel, by decide +kernel⟩⟩
abbrev mX3_isFull : Md := (yX3_isFull, cX3_isFull, 1, (some .boolean))
set_option maxRecDepth 100000 in
theorem pn_X3_isFull : (parseMethodDescriptor mX3_isFull.1.desc).map (fun d => d.parameters.length) = some 0 := by decide +kernel
set_option maxRecDepth 100000 in
theorem ok_X3_isFull : okV mX3_isFull := ⟨TB_t3 76 rfl (by decide +kernel), TB_t3 74 rfl (by decide +kernel), TB_t3 75 rfl (by decide +kernel), in_X3, ⟨by decide +kernel, by decide +kernel⟩⟩
abbrev mX3_hasEnoughFor : Md := (yX3_hasEnoughFor, cX3_hasEnoughFor, 2, (some .boolean))
set_option maxRecDepth 100000 in
theorem pn_X3_hasEnoughFor : (parseMethodDescriptor mX3_hasEnoughFor.1.desc).map (fun d => d.parameters.length) = some 1 := by decide +kernel
set_option maxRecDepth 100000 in
theorem ok_X3_hasEnoughFor : okV mX3_hasEnoughFor := ⟨TB_t3 80 rfl (by decide +kernel), TB_t3 78 rfl (by decide +kernel), TB_t3 79 rfl (by decide +kernel), in_X3, ⟨by decide +kernel, by decide +kernel⟩⟩
abbrev mX3_putItem : Md := (yX3_putItem, cX3_putItem, 5, none)
set_option maxRecDepth 100000 in
theorem pn_X3_putItem : (parseMethodDescriptor mX3_putItem.1.desc).map (fun d => d.parameters.length) = some 3 := by decide +kernel
set_option maxRecDepth 100000 in
theorem ok_X3_putItem : okV mX3_putItem := ⟨TB_t3 91 rfl (by decide +kernel), TB_t3 89 rfl (by decide +kernel), TB_t3 90 rfl (by decide +kernel), in_X3, ⟨by decide +kernel, by decide +kernel⟩⟩
abbrev mX3_taken : Md := (yX3_taken, cX3_taken, 1, (some .int))
set_option maxRecDepth 100000 in
theorem pn_X3_taken : (parseMethodDescriptor mX3_taken.1.desc).map (fun d => d.parameters.length) = some 1 := by decide +kernel
set_option maxRecDepth 100000 in
theorem ok_X3_taken : okS mX3_taken := ⟨TB_t3 83 rfl (by decide +kernel), TB_t3 82 rfl (by decide +kernel), in_X3, ⟨by decide +kernel, by decide +kernel⟩⟩
abbrev mX3_worth : Md := (yX3_worth, cX3_worth, 2, (some .int))
set_option maxRecDepth 100000 in
theorem pn_X3_worth : (parseMethodDescriptor mX3_worth.1.desc).map (fun d => d.parameters.length) = some 1 := by decide +kernel
set_option maxRecDepth 100000 in
theorem ok_X3_worth : okV mX3_worth := ⟨TB_t3 175 rfl (by decide +kernel), TB_t3 173 rfl (by decide +kernel), TB_t3 174 rfl (by decide +kernel), in_X3, ⟨by decide +kernel, by decide +kernel⟩⟩
abbrev mX3_worthFrom : Md := (yX3_worthFrom, cX3_worthFrom, 7, (some .int))
set_option maxRecDepth 100000 in
theorem pn_X3_worthFrom : (parseMethodDescriptor mX3_worthFrom.1.desc).map (fun d => d.parameters.length) = some 2 := by decide +kernel
set_option maxRecDepth 100000 in
theorem ok_X3_worthFrom : okV mX3_worthFrom := ⟨TB_t3 179 rfl (by decide +kernel), TB_t3 178 rfl (by decide +kernel), TB_p 15 rfl (by decide +kernel), in_X3, ⟨by decide +kernel, by decide +kernel⟩⟩
abbrev mX3_worthOfItems : Md := (yX3_worthOfItems, cX3_worthOfItems, 5, (some .int))
set_option maxRecDepth 100000 in
theorem pn_X3_worthOfItems : (parseMethodDescriptor mX3_worthOfItems.1.desc).map (fun d => d.parameters.length) = some 1 := by decide +kernel
set_option maxRecDepth 100000 in
theorem ok_X3_worthOfItems : okV mX3_worthOfItems := ⟨TB_t3 183 rfl (by decide +kernel), TB_t3 182 rfl (by decide +kernel), TB_p 16 rfl (by decide +kernel), in_X3, ⟨by decide +kernel, by decide +kernel⟩⟩
abbrev mX3_truthOf : Md := (yX3_truthOf, cX3_truthOf, 5, (some .int))
set_option maxRecDepth 100000 in
theorem pn_X3_truthOf : (parseMethodDescriptor mX3_truthOf.1.desc).map (fun d => d.parameters.length) = some 4 := by decide +kernel
set_option maxRecDepth 100000 in
theorem ok_X3_truthOf : okV mX3_truthOf := ⟨TB_t3 188 rfl (by decide +kernel), TB_t3 187 rfl (by decide +kernel), TB_p 17 rfl (by decide +kernel), in_X3, ⟨by decide +kernel, by decide +kernel⟩⟩
abbrev mX4_init : Md := (yX4_init, cX4_init, 1, none)
set_option maxRecDepth 100000 in
theorem pn_X4_init : (parseMethodDescriptor mX4_init.1.desc).map (fun d => d.parameters.length) = some 0 := by decide +kernel
set_option maxRecDepth 100000 in
theorem ok_X4_init : okI mX4_init := ⟨TB_t1 59 rfl (by decide +kernel), TB_t1 58 rfl (by decide +kernel), in_X4, ⟨by decide +kernel, by decide +kernel⟩, rfl, rfl⟩
abbrev mX4_takes : Md := (yX4_takes, cX4_takes, 2, (some .boolean))
set_option maxRecDepth 100000 in
theorem pn_X4_takes : (parseMethodDescriptor mX4_takes.1.desc).map (fun d => d.parameters.length) = some 1 := by decide +kernel
set_option maxRecDepth 100000 in
theorem ok_X4_takes : okV mX4_takes := ⟨TB_t2 138 rfl (by decide +kernel), TB_t2 136 rfl (by decide +kernel), TB_t2 137 rfl (by decide +kernel), in_X4, ⟨by decide +kernel, by decide +kernel⟩⟩
abbrev mX4_refuse : Md := (yX4_refuse, cX4_refuse, 3, (some .boolean))
set_option maxRecDepth 100000 in
theorem pn_X4_refuse : (parseMethodDescriptor mX4_refuse.1.desc).map (fun d => d.parameters.length) = some 2 := by decide +kernel
set_option maxRecDepth 100000 in
theorem ok_X4_refuse : okV mX4_refuse := ⟨TB_t2 226 rfl (by decide +kernel), TB_t2 225 rfl (by decide +kernel), TB_p 2 rfl (by decide +kernel), in_X4, ⟨by decide +kernel, by decide +kernel⟩⟩
abbrev mX4_refuseToken : Md := (yX4_refuseToken, cX4_refuseToken, 2, (some .boolean))
set_option maxRecDepth 100000 in
theorem pn_X4_refuseToken : (parseMethodDescriptor mX4_refuseToken.1.desc).map (fun d => d.parameters.length) = some 1 := by decide +kernel
set_option maxRecDepth 100000 in
theorem ok_X4_refuseToken : okV mX4_refuseToken := ⟨TB_t3 3 rfl (by decide +kernel), TB_t3 2 rfl (by decide +kernel), TB_p 4 rfl (by decide +kernel), in_X4, ⟨by decide +kernel, by decide +kernel⟩⟩
abbrev mX4_takeLine : Md := (yX4_takeLine, cX4_takeLine, 2, (some .boolean))
set_option maxRecDepth 100000 in
theorem pn_X4_takeLine : (parseMethodDescriptor mX4_takeLine.1.desc).map (fun d => d.parameters.length) = some 1 := by decide +kernel
set_option maxRecDepth 100000 in
theorem ok_X4_takeLine : okV mX4_takeLine := ⟨TB_t2 161 rfl (by decide +kernel), TB_t2 160 rfl (by decide +kernel), TB_p 0 rfl (by decide +kernel), in_X4, ⟨by decide +kernel, by decide +kernel⟩⟩
abbrev mX4_takeNode : Md := (yX4_takeNode, cX4_takeNode, 3, (some .boolean))
set_option maxRecDepth 100000 in
theorem pn_X4_takeNode : (parseMethodDescriptor mX4_takeNode.1.desc).map (fun d => d.parameters.length) = some 2 := by decide +kernel
set_option maxRecDepth 100000 in
theorem ok_X4_takeNode : okV mX4_takeNode := ⟨TB_t2 218 rfl (by decide +kernel), TB_t2 217 rfl (by decide +kernel), TB_p 1 rfl (by decide +kernel), in_X4, ⟨by decide +kernel, by decide +kernel⟩⟩
abbrev mX4_takeAt : Md := (yX4_takeAt, cX4_takeAt, 4, (some .boolean))
set_option maxRecDepth 100000 in
theorem pn_X4_takeAt : (parseMethodDescriptor mX4_takeAt.1.desc).map (fun d => d.parameters.length) = some 1 := by decide +kernel
set_option maxRecDepth 100000 in
theorem ok_X4_takeAt : okV mX4_takeAt := ⟨TB_t3 9 rfl (by decide +kernel), TB_t3 8 rfl (by decide +kernel), TB_p 5 rfl (by decide +kernel), in_X4, ⟨by decide +kernel, by decide +kernel⟩⟩
abbrev mX4_takeNext : Md := (yX4_takeNext, cX4_takeNext, 4, (some .boolean))
set_option maxRecDepth 100000 in
theorem pn_X4_takeNext : (parseMethodDescriptor mX4_takeNext.1.desc).map (fun d => d.parameters.length) = some 1 := by decide +kernel
set_option maxRecDepth 100000 in
theorem ok_X4_takeNext : okV mX4_takeNext := ⟨TB_t3 37 rfl (by decide +kernel), TB_t3 36 rfl (by decide +kernel), TB_p 8 rfl (by decide +kernel), in_X4, ⟨by decide +kernel, by decide +kernel⟩⟩
abbrev mX4_takeAsk : Md := (yX4_takeAsk, cX4_takeAsk, 4, (some .boolean))
set_option maxRecDepth 100000 in
theorem pn_X4_takeAsk : (parseMethodDescriptor mX4_takeAsk.1.desc).map (fun d => d.parameters.length) = some 1 := by decide +kernel
set_option maxRecDepth 100000 in
theorem ok_X4_takeAsk : okV mX4_takeAsk := ⟨TB_t3 42 rfl (by decide +kernel), TB_t3 41 rfl (by decide +kernel), TB_p 9 rfl (by decide +kernel), in_X4, ⟨by decide +kernel, by decide +kernel⟩⟩
abbrev mX4_tellLetter : Md := (yX4_tellLetter, cX4_tellLetter, 5, (some .boolean))
set_option maxRecDepth 100000 in
theorem pn_X4_tellLetter : (parseMethodDescriptor mX4_tellLetter.1.desc).map (fun d => d.parameters.length) = some 2 := by decide +kernel
set_option maxRecDepth 100000 in
theorem ok_X4_tellLetter : okV mX4_tellLetter := ⟨TB_t3 52 rfl (by decide +kernel), TB_t3 51 rfl (by decide +kernel), TB_p 10 rfl (by decide +kernel), in_X4, ⟨by decide +kernel, by decide +kernel⟩⟩
abbrev mX4_takeItem : Md := (yX4_takeItem, cX4_takeItem, 6, (some .boolean))
set_option maxRecDepth 100000 in
theorem pn_X4_takeItem : (parseMethodDescriptor mX4_takeItem.1.desc).map (fun d => d.parameters.length) = some 2 := by decide +kernel
set_option maxRecDepth 100000 in
theorem ok_X4_takeItem : okV mX4_takeItem := ⟨TB_t3 64 rfl (by decide +kernel), TB_t3 63 rfl (by decide +kernel), TB_p 11 rfl (by decide +kernel), in_X4, ⟨by decide +kernel, by decide +kernel⟩⟩
abbrev mX4_itemKind : Md := (yX4_itemKind, cX4_itemKind, 1, (some .int))
set_option maxRecDepth 100000 in
theorem pn_X4_itemKind : (parseMethodDescriptor mX4_itemKind.1.desc).map (fun d => d.parameters.length) = some 1 := by decide +kernel
set_option maxRecDepth 100000 in
theorem ok_X4_itemKind : okS mX4_itemKind := ⟨TB_t3 67 rfl (by decide +kernel), TB_t3 66 rfl (by decide +kernel), in_X4, ⟨by decide +kernel, by decide +kernel⟩⟩
abbrev mX4_takeVariable : Md := (yX4_takeVariable, cX4_takeVariable, 3, (some .int))
set_option maxRecDepth 100000 in
theorem pn_X4_takeVariable : (parseMethodDescriptor mX4_takeVariable.1.desc).map (fun d => d.parameters.length) = some 1 := by decide +kernel
set_option maxRecDepth 100000 in
theorem ok_X4_takeVariable : okV mX4_takeVariable := ⟨TB_t3 13 rfl (by decide +kernel), TB_t3 12 rfl (by decide +kernel), TB_p 6 rfl (by decide +kernel), in_X4, ⟨by decide +kernel, by decide +kernel⟩⟩
abbrev mX4_takeLetter : Md := (yX4_takeLetter, cX4_takeLetter, 5, (some .int))
set_option maxRecDepth 100000 in
theorem pn_X4_takeLetter : (parseMethodDescriptor mX4_takeLetter.1.desc).map (fun d => d.parameters.length) = some 2 := by decide +kernel
set_option maxRecDepth 100000 in
theorem ok_X4_takeLetter : okV mX4_takeLetter := ⟨TB_t3 87 rfl (by decide +kernel), TB_t3 86 rfl (by decide +kernel), TB_p 12 rfl (by decide +kernel), in_X4, ⟨by decide +kernel, by decide +kernel⟩⟩
abbrev mX4_takeNodeNumber : Md := (yX4_takeNodeNumber, cX4_takeNodeNumber, 3, (some .int))
set_option maxRecDepth 100000 in
theorem pn_X4_takeNodeNumber : (parseMethodDescriptor mX4_takeNodeNumber.1.desc).map (fun d => d.parameters.length) = some 1 := by decide +kernel
set_option maxRecDepth 100000 in
theorem ok_X4_takeNodeNumber : okV mX4_takeNodeNumber := ⟨TB_t3 21 rfl (by decide +kernel), TB_t3 20 rfl (by decide +kernel), TB_p 7 rfl (by decide +kernel), in_X4, ⟨by decide +kernel, by decide +kernel⟩⟩
abbrev mX4_takeTruth : Md := (yX4_takeTruth, cX4_takeTruth, 1, (some .int))
set_option maxRecDepth 100000 in
theorem pn_X4_takeTruth : (parseMethodDescriptor mX4_takeTruth.1.desc).map (fun d => d.parameters.length) = some 1 := by decide +kernel
set_option maxRecDepth 100000 in
theorem ok_X4_takeTruth : okS mX4_takeTruth := ⟨TB_t3 31 rfl (by decide +kernel), TB_t3 30 rfl (by decide +kernel), in_X4, ⟨by decide +kernel, by decide +kernel⟩⟩
abbrev mX4_takeSign : Md := (yX4_takeSign, cX4_takeSign, 3, (some .boolean))
set_option maxRecDepth 100000 in
theorem pn_X4_takeSign : (parseMethodDescriptor mX4_takeSign.1.desc).map (fun d => d.parameters.length) = some 2 := by decide +kernel
set_option maxRecDepth 100000 in
theorem ok_X4_takeSign : okV mX4_takeSign := ⟨TB_t2 235 rfl (by decide +kernel), TB_t2 234 rfl (by decide +kernel), TB_p 3 rfl (by decide +kernel), in_X4, ⟨by decide +kernel, by decide +kernel⟩⟩
abbrev mX5_init : Md := (yX5_init, cX5_init, 1, none)
set_option maxRecDepth 100000 in
theorem pn_X5_init : (parseMethodDescriptor mX5_init.1.desc).map (fun d => d.parameters.length) = some 0 := by decide +kernel
set_option maxRecDepth 100000 in
theorem ok_X5_init : okI mX5_init := ⟨TB_t1 71 rfl (by decide +kernel), TB_t1 70 rfl (by decide +kernel), in_X5, ⟨by decide +kernel, by decide +kernel⟩, rfl, rfl⟩
abbrev mX5_has : Md := (yX5_has, cX5_has, 2, (some .boolean))
set_option maxRecDepth 100000 in
theorem pn_X5_has : (parseMethodDescriptor mX5_has.1.desc).map (fun d => d.parameters.length) = some 1 := by decide +kernel
set_option maxRecDepth 100000 in
theorem ok_X5_has : okV mX5_has := ⟨TB_t3 132 rfl (by decide +kernel), TB_t3 130 rfl (by decide +kernel), TB_t3 131 rfl (by decide +kernel), in_X5, ⟨by decide +kernel, by decide +kernel⟩⟩
abbrev mX5_isFull : Md := (yX5_isFull, cX5_isFull, 1, (some .boolean))
set_option maxRecDepth 100000 in
theorem pn_X5_isFull : (parseMethodDescriptor mX5_isFull.1.desc).map (fun d => d.parameters.length) = some 0 := by decide +kernel
set_option maxRecDepth 100000 in
theorem ok_X5_isFull : okV mX5_isFull := ⟨TB_t2 222 rfl (by decide +kernel), TB_t2 220 rfl (by decide +kernel), TB_t2 221 rfl (by decide +kernel), in_X5, ⟨by decide +kernel, by decide +kernel⟩⟩
abbrev mX5_clear : Md := (yX5_clear, cX5_clear, 2, none)
set_option maxRecDepth 100000 in
theorem pn_X5_clear : (parseMethodDescriptor mX5_clear.1.desc).map (fun d => d.parameters.length) = some 0 := by decide +kernel
set_option maxRecDepth 100000 in
theorem ok_X5_clear : okV mX5_clear := ⟨TB_t2 146 rfl (by decide +kernel), TB_t2 144 rfl (by decide +kernel), TB_t2 145 rfl (by decide +kernel), in_X5, ⟨by decide +kernel, by decide +kernel⟩⟩
abbrev mX5_copy : Md := (yX5_copy, cX5_copy, 3, none)
set_option maxRecDepth 100000 in
theorem pn_X5_copy : (parseMethodDescriptor mX5_copy.1.desc).map (fun d => d.parameters.length) = some 1 := by decide +kernel
set_option maxRecDepth 100000 in
theorem ok_X5_copy : okV mX5_copy := ⟨TB_t4 51 rfl (by decide +kernel), TB_t4 49 rfl (by decide +kernel), TB_t4 50 rfl (by decide +kernel), in_X5, ⟨by decide +kernel, by decide +kernel⟩⟩
abbrev mX5_append : Md := (yX5_append, cX5_append, 2, none)
set_option maxRecDepth 100000 in
theorem pn_X5_append : (parseMethodDescriptor mX5_append.1.desc).map (fun d => d.parameters.length) = some 1 := by decide +kernel
set_option maxRecDepth 100000 in
theorem ok_X5_append : okV mX5_append := ⟨TB_t2 230 rfl (by decide +kernel), TB_t2 228 rfl (by decide +kernel), TB_t2 229 rfl (by decide +kernel), in_X5, ⟨by decide +kernel, by decide +kernel⟩⟩
abbrev mX5_drop : Md := (yX5_drop, cX5_drop, 3, none)
set_option maxRecDepth 100000 in
theorem pn_X5_drop : (parseMethodDescriptor mX5_drop.1.desc).map (fun d => d.parameters.length) = some 1 := by decide +kernel
set_option maxRecDepth 100000 in
theorem ok_X5_drop : okV mX5_drop := ⟨TB_t3 214 rfl (by decide +kernel), TB_t3 212 rfl (by decide +kernel), TB_t3 213 rfl (by decide +kernel), in_X5, ⟨by decide +kernel, by decide +kernel⟩⟩
abbrev mX5_closeGap : Md := (yX5_closeGap, cX5_closeGap, 2, none)
set_option maxRecDepth 100000 in
theorem pn_X5_closeGap : (parseMethodDescriptor mX5_closeGap.1.desc).map (fun d => d.parameters.length) = some 2 := by decide +kernel
set_option maxRecDepth 100000 in
theorem ok_X5_closeGap : okS mX5_closeGap := ⟨TB_t3 218 rfl (by decide +kernel), TB_t3 217 rfl (by decide +kernel), in_X5, ⟨by decide +kernel, by decide +kernel⟩⟩
abbrev mX5_sameness : Md := (yX5_sameness, cX5_sameness, 3, (some .int))
set_option maxRecDepth 100000 in
theorem pn_X5_sameness : (parseMethodDescriptor mX5_sameness.1.desc).map (fun d => d.parameters.length) = some 2 := by decide +kernel
set_option maxRecDepth 100000 in
theorem ok_X5_sameness : okV mX5_sameness := ⟨TB_t3 151 rfl (by decide +kernel), TB_t3 149 rfl (by decide +kernel), TB_t3 150 rfl (by decide +kernel), in_X5, ⟨by decide +kernel, by decide +kernel⟩⟩
abbrev mX5_holding : Md := (yX5_holding, cX5_holding, 4, (some .int))
set_option maxRecDepth 100000 in
theorem pn_X5_holding : (parseMethodDescriptor mX5_holding.1.desc).map (fun d => d.parameters.length) = some 1 := by decide +kernel
set_option maxRecDepth 100000 in
theorem ok_X5_holding : okV mX5_holding := ⟨TB_t3 167 rfl (by decide +kernel), TB_t3 165 rfl (by decide +kernel), TB_t3 166 rfl (by decide +kernel), in_X5, ⟨by decide +kernel, by decide +kernel⟩⟩
abbrev mX5_manys : Md := (yX5_manys, cX5_manys, 3, (some .int))
set_option maxRecDepth 100000 in
theorem pn_X5_manys : (parseMethodDescriptor mX5_manys.1.desc).map (fun d => d.parameters.length) = some 0 := by decide +kernel
set_option maxRecDepth 100000 in
theorem ok_X5_manys : okV mX5_manys := ⟨TB_t3 105 rfl (by decide +kernel), TB_t3 103 rfl (by decide +kernel), TB_t3 104 rfl (by decide +kernel), in_X5, ⟨by decide +kernel, by decide +kernel⟩⟩
abbrev mX5_atsThatAre : Md := (yX5_atsThatAre, cX5_atsThatAre, 4, (some .int))
set_option maxRecDepth 100000 in
theorem pn_X5_atsThatAre : (parseMethodDescriptor mX5_atsThatAre.1.desc).map (fun d => d.parameters.length) = some 1 := by decide +kernel
set_option maxRecDepth 100000 in
theorem ok_X5_atsThatAre : okV mX5_atsThatAre := ⟨TB_t3 109 rfl (by decide +kernel), TB_t3 107 rfl (by decide +kernel), TB_t3 108 rfl (by decide +kernel), in_X5, ⟨by decide +kernel, by decide +kernel⟩⟩
abbrev mX5_nextsThatAre : Md := (yX5_nextsThatAre, cX5_nextsThatAre, 4, (some .int))
set_option maxRecDepth 100000 in
theorem pn_X5_nextsThatAre : (parseMethodDescriptor mX5_nextsThatAre.1.desc).map (fun d => d.parameters.length) = some 1 := by decide +kernel
set_option maxRecDepth 100000 in
theorem ok_X5_nextsThatAre : okV mX5_nextsThatAre := ⟨TB_t3 117 rfl (by decide +kernel), TB_t3 115 rfl (by decide +kernel), TB_t3 116 rfl (by decide +kernel), in_X5, ⟨by decide +kernel, by decide +kernel⟩⟩
abbrev mX5_cellsThatAre : Md := (yX5_cellsThatAre, cX5_cellsThatAre, 5, (some .int))
set_option maxRecDepth 100000 in
theorem pn_X5_cellsThatAre : (parseMethodDescriptor mX5_cellsThatAre.1.desc).map (fun d => d.parameters.length) = some 2 := by decide +kernel
set_option maxRecDepth 100000 in
theorem ok_X5_cellsThatAre : okV mX5_cellsThatAre := ⟨TB_t3 113 rfl (by decide +kernel), TB_t3 112 rfl (by decide +kernel), TB_p 13 rfl (by decide +kernel), in_X5, ⟨by decide +kernel, by decide +kernel⟩⟩
abbrev mX5_isHeap : Md := (yX5_isHeap, cX5_isHeap, 3, (some .boolean))
set_option maxRecDepth 100000 in
theorem pn_X5_isHeap : (parseMethodDescriptor mX5_isHeap.1.desc).map (fun d => d.parameters.length) = some 0 := by decide +kernel
set_option maxRecDepth 100000 in
theorem ok_X5_isHeap : okV mX5_isHeap := ⟨TB_t3 121 rfl (by decide +kernel), TB_t3 119 rfl (by decide +kernel), TB_t3 120 rfl (by decide +kernel), in_X5, ⟨by decide +kernel, by decide +kernel⟩⟩
abbrev mX5_trace : Md := (yX5_trace, cX5_trace, 4, none)
set_option maxRecDepth 100000 in
theorem pn_X5_trace : (parseMethodDescriptor mX5_trace.1.desc).map (fun d => d.parameters.length) = some 0 := by decide +kernel
set_option maxRecDepth 100000 in
theorem ok_X5_trace : okV mX5_trace := ⟨TB_t3 136 rfl (by decide +kernel), TB_t3 134 rfl (by decide +kernel), TB_t3 135 rfl (by decide +kernel), in_X5, ⟨by decide +kernel, by decide +kernel⟩⟩
abbrev mX5_reaching : Md := (yX5_reaching, cX5_reaching, 6, (some .int))
set_option maxRecDepth 100000 in
theorem pn_X5_reaching : (parseMethodDescriptor mX5_reaching.1.desc).map (fun d => d.parameters.length) = some 2 := by decide +kernel
set_option maxRecDepth 100000 in
theorem ok_X5_reaching : okV mX5_reaching := ⟨TB_t3 147 rfl (by decide +kernel), TB_t3 146 rfl (by decide +kernel), TB_p 14 rfl (by decide +kernel), in_X5, ⟨by decide +kernel, by decide +kernel⟩⟩
abbrev mX6_init : Md := (yX6_init, cX6_init, 1, none)
set_option maxRecDepth 100000 in
theorem pn_X6_init : (parseMethodDescriptor mX6_init.1.desc).map (fun d => d.parameters.length) = some 0 := by decide +kernel
set_option maxRecDepth 100000 in
theorem ok_X6_init : okI mX6_init := ⟨TB_t2 8 rfl (by decide +kernel), TB_t2 7 rfl (by decide +kernel), in_X6, ⟨by decide +kernel, by decide +kernel⟩, rfl, rfl⟩
abbrev mX6_apply : Md := (yX6_apply, cX6_apply, 4, (some .int))
set_option maxRecDepth 100000 in
theorem pn_X6_apply : (parseMethodDescriptor mX6_apply.1.desc).map (fun d => d.parameters.length) = some 1 := by decide +kernel
set_option maxRecDepth 100000 in
theorem ok_X6_apply : okV mX6_apply := ⟨TB_t4 59 rfl (by decide +kernel), TB_t4 57 rfl (by decide +kernel), TB_t4 58 rfl (by decide +kernel), in_X6, ⟨by decide +kernel, by decide +kernel⟩⟩
abbrev mX6_drawFromAts : Md := (yX6_drawFromAts, cX6_drawFromAts, 3, none)
set_option maxRecDepth 100000 in
theorem pn_X6_drawFromAts : (parseMethodDescriptor mX6_drawFromAts.1.desc).map (fun d => d.parameters.length) = some 0 := by decide +kernel
set_option maxRecDepth 100000 in
theorem ok_X6_drawFromAts : okV mX6_drawFromAts := ⟨TB_t4 64 rfl (by decide +kernel), TB_t4 63 rfl (by decide +kernel), TB_p 21 rfl (by decide +kernel), in_X6, ⟨by decide +kernel, by decide +kernel⟩⟩
abbrev mX6_drawFromNexts : Md := (yX6_drawFromNexts, cX6_drawFromNexts, 3, none)
set_option maxRecDepth 100000 in
theorem pn_X6_drawFromNexts : (parseMethodDescriptor mX6_drawFromNexts.1.desc).map (fun d => d.parameters.length) = some 0 := by decide +kernel
set_option maxRecDepth 100000 in
theorem ok_X6_drawFromNexts : okV mX6_drawFromNexts := ⟨TB_t4 76 rfl (by decide +kernel), TB_t4 75 rfl (by decide +kernel), TB_p 24 rfl (by decide +kernel), in_X6, ⟨by decide +kernel, by decide +kernel⟩⟩
abbrev mX6_makeSingle : Md := (yX6_makeSingle, cX6_makeSingle, 2, none)
set_option maxRecDepth 100000 in
theorem pn_X6_makeSingle : (parseMethodDescriptor mX6_makeSingle.1.desc).map (fun d => d.parameters.length) = some 1 := by decide +kernel
set_option maxRecDepth 100000 in
theorem ok_X6_makeSingle : okV mX6_makeSingle := ⟨TB_t4 68 rfl (by decide +kernel), TB_t4 67 rfl (by decide +kernel), TB_p 22 rfl (by decide +kernel), in_X6, ⟨by decide +kernel, by decide +kernel⟩⟩
abbrev mX6_clearOthers : Md := (yX6_clearOthers, cX6_clearOthers, 4, none)
set_option maxRecDepth 100000 in
theorem pn_X6_clearOthers : (parseMethodDescriptor mX6_clearOthers.1.desc).map (fun d => d.parameters.length) = some 2 := by decide +kernel
set_option maxRecDepth 100000 in
theorem ok_X6_clearOthers : okV mX6_clearOthers := ⟨TB_t4 72 rfl (by decide +kernel), TB_t4 71 rfl (by decide +kernel), TB_p 23 rfl (by decide +kernel), in_X6, ⟨by decide +kernel, by decide +kernel⟩⟩
abbrev mX7_init : Md := (yX7_init, cX7_init, 1, none)
set_option maxRecDepth 100000 in
theorem pn_X7_init : (parseMethodDescriptor mX7_init.1.desc).map (fun d => d.parameters.length) = some 0 := by decide +kernel
set_option maxRecDepth 100000 in
theorem ok_X7_init : okI mX7_init := ⟨TB_t2 57 rfl (by decide +kernel), TB_t2 56 rfl (by decide +kernel), in_X7, ⟨by decide +kernel, by decide +kernel⟩, rfl, rfl⟩
abbrev mX7_renew : Md := (yX7_renew, cX7_renew, 3, none)
set_option maxRecDepth 100000 in
theorem pn_X7_renew : (parseMethodDescriptor mX7_renew.1.desc).map (fun d => d.parameters.length) = some 2 := by decide +kernel
set_option maxRecDepth 100000 in
theorem ok_X7_renew : okV mX7_renew := ⟨TB_t4 160 rfl (by decide +kernel), TB_t4 158 rfl (by decide +kernel), TB_t4 159 rfl (by decide +kernel), in_X7, ⟨by decide +kernel, by decide +kernel⟩⟩
abbrev mX7_findTaken : Md := (yX7_findTaken, cX7_findTaken, 4, (some .int))
set_option maxRecDepth 100000 in
theorem pn_X7_findTaken : (parseMethodDescriptor mX7_findTaken.1.desc).map (fun d => d.parameters.length) = some 3 := by decide +kernel
set_option maxRecDepth 100000 in
theorem ok_X7_findTaken : okV mX7_findTaken := ⟨TB_t4 171 rfl (by decide +kernel), TB_t4 169 rfl (by decide +kernel), TB_t4 170 rfl (by decide +kernel), in_X7, ⟨by decide +kernel, by decide +kernel⟩⟩
abbrev mX7_put : Md := (yX7_put, cX7_put, 3, none)
set_option maxRecDepth 100000 in
theorem pn_X7_put : (parseMethodDescriptor mX7_put.1.desc).map (fun d => d.parameters.length) = some 2 := by decide +kernel
set_option maxRecDepth 100000 in
theorem ok_X7_put : okV mX7_put := ⟨TB_t4 175 rfl (by decide +kernel), TB_t4 173 rfl (by decide +kernel), TB_t4 174 rfl (by decide +kernel), in_X7, ⟨by decide +kernel, by decide +kernel⟩⟩
abbrev mX8_init : Md := (yX8_init, cX8_init, 1, none)
set_option maxRecDepth 100000 in
theorem pn_X8_init : (parseMethodDescriptor mX8_init.1.desc).map (fun d => d.parameters.length) = some 0 := by decide +kernel
set_option maxRecDepth 100000 in
theorem ok_X8_init : okI mX8_init := ⟨TB_t2 26 rfl (by decide +kernel), TB_t2 25 rfl (by decide +kernel), in_X8, ⟨by decide +kernel, by decide +kernel⟩, rfl, rfl⟩
abbrev mX8_number : Md := (yX8_number, cX8_number, 3, (some .int))
set_option maxRecDepth 100000 in
theorem pn_X8_number : (parseMethodDescriptor mX8_number.1.desc).map (fun d => d.parameters.length) = some 2 := by decide +kernel
set_option maxRecDepth 100000 in
theorem ok_X8_number : okV mX8_number := ⟨TB_t4 84 rfl (by decide +kernel), TB_t4 82 rfl (by decide +kernel), TB_t4 83 rfl (by decide +kernel), in_X8, ⟨by decide +kernel, by decide +kernel⟩⟩
abbrev mX8_apply : Md := (yX8_apply, cX8_apply, 4, (some .int))
set_option maxRecDepth 100000 in
theorem pn_X8_apply : (parseMethodDescriptor mX8_apply.1.desc).map (fun d => d.parameters.length) = some 3 := by decide +kernel
set_option maxRecDepth 100000 in
theorem ok_X8_apply : okV mX8_apply := ⟨TB_t4 101 rfl (by decide +kernel), TB_t4 99 rfl (by decide +kernel), TB_t4 100 rfl (by decide +kernel), in_X8, ⟨by decide +kernel, by decide +kernel⟩⟩
abbrev mX8_goThrough : Md := (yX8_goThrough, cX8_goThrough, 6, none)
set_option maxRecDepth 100000 in
theorem pn_X8_goThrough : (parseMethodDescriptor mX8_goThrough.1.desc).map (fun d => d.parameters.length) = some 3 := by decide +kernel
set_option maxRecDepth 100000 in
theorem ok_X8_goThrough : okV mX8_goThrough := ⟨TB_t4 88 rfl (by decide +kernel), TB_t4 87 rfl (by decide +kernel), TB_p 25 rfl (by decide +kernel), in_X8, ⟨by decide +kernel, by decide +kernel⟩⟩
abbrev mX8_meet : Md := (yX8_meet, cX8_meet, 3, none)
set_option maxRecDepth 100000 in
theorem pn_X8_meet : (parseMethodDescriptor mX8_meet.1.desc).map (fun d => d.parameters.length) = some 2 := by decide +kernel
set_option maxRecDepth 100000 in
theorem ok_X8_meet : okV mX8_meet := ⟨TB_t4 93 rfl (by decide +kernel), TB_t4 92 rfl (by decide +kernel), TB_p 26 rfl (by decide +kernel), in_X8, ⟨by decide +kernel, by decide +kernel⟩⟩
abbrev mX8_appendOthersOf : Md := (yX8_appendOthersOf, cX8_appendOthersOf, 4, none)
set_option maxRecDepth 100000 in
theorem pn_X8_appendOthersOf : (parseMethodDescriptor mX8_appendOthersOf.1.desc).map (fun d => d.parameters.length) = some 2 := by decide +kernel
set_option maxRecDepth 100000 in
theorem ok_X8_appendOthersOf : okS mX8_appendOthersOf := ⟨TB_t4 105 rfl (by decide +kernel), TB_t4 104 rfl (by decide +kernel), in_X8, ⟨by decide +kernel, by decide +kernel⟩⟩
abbrev mX9_init : Md := (yX9_init, cX9_init, 1, none)
set_option maxRecDepth 100000 in
theorem pn_X9_init : (parseMethodDescriptor mX9_init.1.desc).map (fun d => d.parameters.length) = some 0 := by decide +kernel
set_option maxRecDepth 100000 in
theorem ok_X9_init : okI mX9_init := ⟨TB_t1 33 rfl (by decide +kernel), TB_t1 32 rfl (by decide +kernel), in_X9, ⟨by decide +kernel, by decide +kernel⟩, rfl, rfl⟩
abbrev mX9_put : Md := (yX9_put, cX9_put, 2, (some .boolean))
set_option maxRecDepth 100000 in
theorem pn_X9_put : (parseMethodDescriptor mX9_put.1.desc).map (fun d => d.parameters.length) = some 1 := by decide +kernel
set_option maxRecDepth 100000 in
theorem ok_X9_put : okV mX9_put := ⟨TB_t2 126 rfl (by decide +kernel), TB_t2 124 rfl (by decide +kernel), TB_t2 125 rfl (by decide +kernel), in_X9, ⟨by decide +kernel, by decide +kernel⟩⟩
abbrev mX9_rewind : Md := (yX9_rewind, cX9_rewind, 1, none)
set_option maxRecDepth 100000 in
theorem pn_X9_rewind : (parseMethodDescriptor mX9_rewind.1.desc).map (fun d => d.parameters.length) = some 0 := by decide +kernel
set_option maxRecDepth 100000 in
theorem ok_X9_rewind : okV mX9_rewind := ⟨TB_t2 153 rfl (by decide +kernel), TB_t2 151 rfl (by decide +kernel), TB_t2 152 rfl (by decide +kernel), in_X9, ⟨by decide +kernel, by decide +kernel⟩⟩
abbrev mX9_advance : Md := (yX9_advance, cX9_advance, 1, none)
set_option maxRecDepth 100000 in
theorem pn_X9_advance : (parseMethodDescriptor mX9_advance.1.desc).map (fun d => d.parameters.length) = some 0 := by decide +kernel
set_option maxRecDepth 100000 in
theorem ok_X9_advance : okV mX9_advance := ⟨TB_t2 157 rfl (by decide +kernel), TB_t2 155 rfl (by decide +kernel), TB_t2 156 rfl (by decide +kernel), in_X9, ⟨by decide +kernel, by decide +kernel⟩⟩
abbrev mX9_isSign : Md := (yX9_isSign, cX9_isSign, 2, (some .boolean))
set_option maxRecDepth 100000 in
theorem pn_X9_isSign : (parseMethodDescriptor mX9_isSign.1.desc).map (fun d => d.parameters.length) = some 1 := by decide +kernel
set_option maxRecDepth 100000 in
theorem ok_X9_isSign : okV mX9_isSign := ⟨TB_t2 239 rfl (by decide +kernel), TB_t2 237 rfl (by decide +kernel), TB_t2 238 rfl (by decide +kernel), in_X9, ⟨by decide +kernel, by decide +kernel⟩⟩
abbrev mX9_isName : Md := (yX9_isName, cX9_isName, 3, (some .boolean))
set_option maxRecDepth 100000 in
theorem pn_X9_isName : (parseMethodDescriptor mX9_isName.1.desc).map (fun d => d.parameters.length) = some 1 := by decide +kernel
set_option maxRecDepth 100000 in
theorem ok_X9_isName : okV mX9_isName := ⟨TB_t2 166 rfl (by decide +kernel), TB_t2 164 rfl (by decide +kernel), TB_t2 165 rfl (by decide +kernel), in_X9, ⟨by decide +kernel, by decide +kernel⟩⟩
abbrev mX9_oneOfThree : Md := (yX9_oneOfThree, cX9_oneOfThree, 3, (some .int))
set_option maxRecDepth 100000 in
theorem pn_X9_oneOfThree : (parseMethodDescriptor mX9_oneOfThree.1.desc).map (fun d => d.parameters.length) = some 1 := by decide +kernel
set_option maxRecDepth 100000 in
theorem ok_X9_oneOfThree : okV mX9_oneOfThree := ⟨TB_t3 17 rfl (by decide +kernel), TB_t3 15 rfl (by decide +kernel), TB_t3 16 rfl (by decide +kernel), in_X9, ⟨by decide +kernel, by decide +kernel⟩⟩
abbrev mX9_number : Md := (yX9_number, cX9_number, 3, (some .int))
set_option maxRecDepth 100000 in
theorem pn_X9_number : (parseMethodDescriptor mX9_number.1.desc).map (fun d => d.parameters.length) = some 0 := by decide +kernel
set_option maxRecDepth 100000 in
theorem ok_X9_number : okV mX9_number := ⟨TB_t3 25 rfl (by decide +kernel), TB_t3 23 rfl (by decide +kernel), TB_t3 24 rfl (by decide +kernel), in_X9, ⟨by decide +kernel, by decide +kernel⟩⟩
abbrev mX10_init : Md := (yX10_init, cX10_init, 2, none)
set_option maxRecDepth 100000 in
theorem pn_X10_init : (parseMethodDescriptor mX10_init.1.desc).map (fun d => d.parameters.length) = some 0 := by decide +kernel
set_option maxRecDepth 100000 in
theorem ok_X10_init : okI mX10_init := ⟨TB_t1 65 rfl (by decide +kernel), TB_t1 64 rfl (by decide +kernel), in_X10, ⟨by decide +kernel, by decide +kernel⟩, rfl, rfl⟩
abbrev mX10_clear : Md := (yX10_clear, cX10_clear, 1, none)
set_option maxRecDepth 100000 in
theorem pn_X10_clear : (parseMethodDescriptor mX10_clear.1.desc).map (fun d => d.parameters.length) = some 0 := by decide +kernel
set_option maxRecDepth 100000 in
theorem ok_X10_clear : okV mX10_clear := ⟨TB_t2 142 rfl (by decide +kernel), TB_t2 140 rfl (by decide +kernel), TB_t2 141 rfl (by decide +kernel), in_X10, ⟨by decide +kernel, by decide +kernel⟩⟩
abbrev mX10_itemsOfAll : Md := (yX10_itemsOfAll, cX10_itemsOfAll, 3, (some .int))
set_option maxRecDepth 100000 in
theorem pn_X10_itemsOfAll : (parseMethodDescriptor mX10_itemsOfAll.1.desc).map (fun d => d.parameters.length) = some 0 := by decide +kernel
set_option maxRecDepth 100000 in
theorem ok_X10_itemsOfAll : okV mX10_itemsOfAll := ⟨TB_t4 196 rfl (by decide +kernel), TB_t4 194 rfl (by decide +kernel), TB_t4 195 rfl (by decide +kernel), in_X10, ⟨by decide +kernel, by decide +kernel⟩⟩
abbrev mX11_init : Md := (yX11_init, cX11_init, 2, none)
set_option maxRecDepth 100000 in
theorem pn_X11_init : (parseMethodDescriptor mX11_init.1.desc).map (fun d => d.parameters.length) = some 0 := by decide +kernel
set_option maxRecDepth 100000 in
theorem ok_X11_init : okI mX11_init := ⟨TB_t1 25 rfl (by decide +kernel), TB_t1 24 rfl (by decide +kernel), in_X11, ⟨by decide +kernel, by decide +kernel⟩, rfl, rfl⟩
abbrev mX11_feed : Md := (yX11_feed, cX11_feed, 2, (some .int))
set_option maxRecDepth 100000 in
theorem pn_X11_feed : (parseMethodDescriptor mX11_feed.1.desc).map (fun d => d.parameters.length) = some 1 := by decide +kernel
set_option maxRecDepth 100000 in
theorem ok_X11_feed : okV mX11_feed := ⟨TB_t2 122 rfl (by decide +kernel), TB_t2 120 rfl (by decide +kernel), TB_t2 121 rfl (by decide +kernel), in_X11, ⟨by decide +kernel, by decide +kernel⟩⟩
abbrev mX11_end : Md := (yX11_end, cX11_end, 3, (some .int))
set_option maxRecDepth 100000 in
theorem pn_X11_end : (parseMethodDescriptor mX11_end.1.desc).map (fun d => d.parameters.length) = some 1 := by decide +kernel
set_option maxRecDepth 100000 in
theorem ok_X11_end : okV mX11_end := ⟨TB_t2 130 rfl (by decide +kernel), TB_t2 128 rfl (by decide +kernel), TB_t2 129 rfl (by decide +kernel), in_X11, ⟨by decide +kernel, by decide +kernel⟩⟩
abbrev mX11_text : Md := (yX11_text, cX11_text, 4, (some .int))
set_option maxRecDepth 100000 in
theorem pn_X11_text : (parseMethodDescriptor mX11_text.1.desc).map (fun d => d.parameters.length) = some 0 := by decide +kernel
set_option maxRecDepth 100000 in
theorem ok_X11_text : okV mX11_text := ⟨TB_t2 134 rfl (by decide +kernel), TB_t2 132 rfl (by decide +kernel), TB_t2 133 rfl (by decide +kernel), in_X11, ⟨by decide +kernel, by decide +kernel⟩⟩
abbrev mX11_fault : Md := (yX11_fault, cX11_fault, 1, (some .int))
set_option maxRecDepth 100000 in
theorem pn_X11_fault : (parseMethodDescriptor mX11_fault.1.desc).map (fun d => d.parameters.length) = some 0 := by decide +kernel
set_option maxRecDepth 100000 in
theorem ok_X11_fault : okV mX11_fault := ⟨TB_t3 97 rfl (by decide +kernel), TB_t3 95 rfl (by decide +kernel), TB_t3 96 rfl (by decide +kernel), in_X11, ⟨by decide +kernel, by decide +kernel⟩⟩
abbrev mX11_rule : Md := (yX11_rule, cX11_rule, 3, (some .int))
set_option maxRecDepth 100000 in
theorem pn_X11_rule : (parseMethodDescriptor mX11_rule.1.desc).map (fun d => d.parameters.length) = some 1 := by decide +kernel
set_option maxRecDepth 100000 in
theorem ok_X11_rule : okV mX11_rule := ⟨TB_t3 101 rfl (by decide +kernel), TB_t3 99 rfl (by decide +kernel), TB_t3 100 rfl (by decide +kernel), in_X11, ⟨by decide +kernel, by decide +kernel⟩⟩
abbrev mX11_node : Md := (yX11_node, cX11_node, 4, (some .int))
set_option maxRecDepth 100000 in
theorem pn_X11_node : (parseMethodDescriptor mX11_node.1.desc).map (fun d => d.parameters.length) = some 2 := by decide +kernel
set_option maxRecDepth 100000 in
theorem ok_X11_node : okV mX11_node := ⟨TB_t3 128 rfl (by decide +kernel), TB_t3 126 rfl (by decide +kernel), TB_t3 127 rfl (by decide +kernel), in_X11, ⟨by decide +kernel, by decide +kernel⟩⟩
abbrev mX11_pair : Md := (yX11_pair, cX11_pair, 5, (some .int))
set_option maxRecDepth 100000 in
theorem pn_X11_pair : (parseMethodDescriptor mX11_pair.1.desc).map (fun d => d.parameters.length) = some 3 := by decide +kernel
set_option maxRecDepth 100000 in
theorem ok_X11_pair : okV mX11_pair := ⟨TB_t3 155 rfl (by decide +kernel), TB_t3 153 rfl (by decide +kernel), TB_t3 154 rfl (by decide +kernel), in_X11, ⟨by decide +kernel, by decide +kernel⟩⟩
abbrev mX11_held : Md := (yX11_held, cX11_held, 2, (some .int))
set_option maxRecDepth 100000 in
theorem pn_X11_held : (parseMethodDescriptor mX11_held.1.desc).map (fun d => d.parameters.length) = some 1 := by decide +kernel
set_option maxRecDepth 100000 in
theorem ok_X11_held : okV mX11_held := ⟨TB_t3 160 rfl (by decide +kernel), TB_t3 158 rfl (by decide +kernel), TB_t3 159 rfl (by decide +kernel), in_X11, ⟨by decide +kernel, by decide +kernel⟩⟩
abbrev mX11_ask : Md := (yX11_ask, cX11_ask, 2, (some .int))
set_option maxRecDepth 100000 in
theorem pn_X11_ask : (parseMethodDescriptor mX11_ask.1.desc).map (fun d => d.parameters.length) = some 1 := by decide +kernel
set_option maxRecDepth 100000 in
theorem ok_X11_ask : okV mX11_ask := ⟨TB_t3 171 rfl (by decide +kernel), TB_t3 169 rfl (by decide +kernel), TB_t3 170 rfl (by decide +kernel), in_X11, ⟨by decide +kernel, by decide +kernel⟩⟩
abbrev mX11_formula : Md := (yX11_formula, cX11_formula, 4, (some .int))
set_option maxRecDepth 100000 in
theorem pn_X11_formula : (parseMethodDescriptor mX11_formula.1.desc).map (fun d => d.parameters.length) = some 2 := by decide +kernel
set_option maxRecDepth 100000 in
theorem ok_X11_formula : okV mX11_formula := ⟨TB_t3 193 rfl (by decide +kernel), TB_t3 191 rfl (by decide +kernel), TB_t3 192 rfl (by decide +kernel), in_X11, ⟨by decide +kernel, by decide +kernel⟩⟩
abbrev mX11_add : Md := (yX11_add, cX11_add, 2, (some .int))
set_option maxRecDepth 100000 in
theorem pn_X11_add : (parseMethodDescriptor mX11_add.1.desc).map (fun d => d.parameters.length) = some 1 := by decide +kernel
set_option maxRecDepth 100000 in
theorem ok_X11_add : okV mX11_add := ⟨TB_t3 201 rfl (by decide +kernel), TB_t3 199 rfl (by decide +kernel), TB_t3 200 rfl (by decide +kernel), in_X11, ⟨by decide +kernel, by decide +kernel⟩⟩
abbrev mX11_lose : Md := (yX11_lose, cX11_lose, 2, (some .int))
set_option maxRecDepth 100000 in
theorem pn_X11_lose : (parseMethodDescriptor mX11_lose.1.desc).map (fun d => d.parameters.length) = some 1 := by decide +kernel
set_option maxRecDepth 100000 in
theorem ok_X11_lose : okV mX11_lose := ⟨TB_t3 210 rfl (by decide +kernel), TB_t3 208 rfl (by decide +kernel), TB_t3 209 rfl (by decide +kernel), in_X11, ⟨by decide +kernel, by decide +kernel⟩⟩
abbrev mX11_many : Md := (yX11_many, cX11_many, 4, (some .int))
set_option maxRecDepth 100000 in
theorem pn_X11_many : (parseMethodDescriptor mX11_many.1.desc).map (fun d => d.parameters.length) = some 2 := by decide +kernel
set_option maxRecDepth 100000 in
theorem ok_X11_many : okV mX11_many := ⟨TB_t3 222 rfl (by decide +kernel), TB_t3 220 rfl (by decide +kernel), TB_t3 221 rfl (by decide +kernel), in_X11, ⟨by decide +kernel, by decide +kernel⟩⟩
abbrev mX11_place : Md := (yX11_place, cX11_place, 5, (some .int))
set_option maxRecDepth 100000 in
theorem pn_X11_place : (parseMethodDescriptor mX11_place.1.desc).map (fun d => d.parameters.length) = some 3 := by decide +kernel
set_option maxRecDepth 100000 in
theorem ok_X11_place : okV mX11_place := ⟨TB_t3 226 rfl (by decide +kernel), TB_t3 224 rfl (by decide +kernel), TB_t3 225 rfl (by decide +kernel), in_X11, ⟨by decide +kernel, by decide +kernel⟩⟩
abbrev mX11_lead : Md := (yX11_lead, cX11_lead, 5, (some .int))
set_option maxRecDepth 100000 in
theorem pn_X11_lead : (parseMethodDescriptor mX11_lead.1.desc).map (fun d => d.parameters.length) = some 3 := by decide +kernel
set_option maxRecDepth 100000 in
theorem ok_X11_lead : okV mX11_lead := ⟨TB_t3 233 rfl (by decide +kernel), TB_t3 231 rfl (by decide +kernel), TB_t3 232 rfl (by decide +kernel), in_X11, ⟨by decide +kernel, by decide +kernel⟩⟩
abbrev mX11_deed : Md := (yX11_deed, cX11_deed, 4, (some .int))
set_option maxRecDepth 100000 in
theorem pn_X11_deed : (parseMethodDescriptor mX11_deed.1.desc).map (fun d => d.parameters.length) = some 3 := by decide +kernel
set_option maxRecDepth 100000 in
theorem ok_X11_deed : okV mX11_deed := ⟨TB_t3 237 rfl (by decide +kernel), TB_t3 235 rfl (by decide +kernel), TB_t3 236 rfl (by decide +kernel), in_X11, ⟨by decide +kernel, by decide +kernel⟩⟩
abbrev mX11_fold : Md := (yX11_fold, cX11_fold, 2, (some .int))
set_option maxRecDepth 100000 in
theorem pn_X11_fold : (parseMethodDescriptor mX11_fold.1.desc).map (fun d => d.parameters.length) = some 1 := by decide +kernel
set_option maxRecDepth 100000 in
theorem ok_X11_fold : okV mX11_fold := ⟨TB_t4 29 rfl (by decide +kernel), TB_t4 27 rfl (by decide +kernel), TB_t4 28 rfl (by decide +kernel), in_X11, ⟨by decide +kernel, by decide +kernel⟩⟩
abbrev mX11_sharpen : Md := (yX11_sharpen, cX11_sharpen, 1, (some .int))
set_option maxRecDepth 100000 in
theorem pn_X11_sharpen : (parseMethodDescriptor mX11_sharpen.1.desc).map (fun d => d.parameters.length) = some 0 := by decide +kernel
set_option maxRecDepth 100000 in
theorem ok_X11_sharpen : okV mX11_sharpen := ⟨TB_t4 55 rfl (by decide +kernel), TB_t4 53 rfl (by decide +kernel), TB_t4 54 rfl (by decide +kernel), in_X11, ⟨by decide +kernel, by decide +kernel⟩⟩
abbrev mX11_ways : Md := (yX11_ways, cX11_ways, 2, (some .int))
set_option maxRecDepth 100000 in
theorem pn_X11_ways : (parseMethodDescriptor mX11_ways.1.desc).map (fun d => d.parameters.length) = some 1 := by decide +kernel
set_option maxRecDepth 100000 in
theorem ok_X11_ways : okV mX11_ways := ⟨TB_t4 80 rfl (by decide +kernel), TB_t4 78 rfl (by decide +kernel), TB_t4 79 rfl (by decide +kernel), in_X11, ⟨by decide +kernel, by decide +kernel⟩⟩
abbrev mX11_split : Md := (yX11_split, cX11_split, 3, (some .int))
set_option maxRecDepth 100000 in
theorem pn_X11_split : (parseMethodDescriptor mX11_split.1.desc).map (fun d => d.parameters.length) = some 2 := by decide +kernel
set_option maxRecDepth 100000 in
theorem ok_X11_split : okV mX11_split := ⟨TB_t4 97 rfl (by decide +kernel), TB_t4 95 rfl (by decide +kernel), TB_t4 96 rfl (by decide +kernel), in_X11, ⟨by decide +kernel, by decide +kernel⟩⟩
abbrev mX11_run : Md := (yX11_run, cX11_run, 8, (some .int))
set_option maxRecDepth 100000 in
theorem pn_X11_run : (parseMethodDescriptor mX11_run.1.desc).map (fun d => d.parameters.length) = some 2 := by decide +kernel
set_option maxRecDepth 100000 in
theorem ok_X11_run : okV mX11_run := ⟨TB_t4 113 rfl (by decide +kernel), TB_t4 111 rfl (by decide +kernel), TB_t4 112 rfl (by decide +kernel), in_X11, ⟨by decide +kernel, by decide +kernel⟩⟩
abbrev mX11_keep : Md := (yX11_keep, cX11_keep, 3, (some .int))
set_option maxRecDepth 100000 in
theorem pn_X11_keep : (parseMethodDescriptor mX11_keep.1.desc).map (fun d => d.parameters.length) = some 1 := by decide +kernel
set_option maxRecDepth 100000 in
theorem ok_X11_keep : okV mX11_keep := ⟨TB_t4 118 rfl (by decide +kernel), TB_t4 116 rfl (by decide +kernel), TB_t4 117 rfl (by decide +kernel), in_X11, ⟨by decide +kernel, by decide +kernel⟩⟩
abbrev mX11_back : Md := (yX11_back, cX11_back, 2, (some .int))
set_option maxRecDepth 100000 in
theorem pn_X11_back : (parseMethodDescriptor mX11_back.1.desc).map (fun d => d.parameters.length) = some 1 := by decide +kernel
set_option maxRecDepth 100000 in
theorem ok_X11_back : okV mX11_back := ⟨TB_t4 126 rfl (by decide +kernel), TB_t4 124 rfl (by decide +kernel), TB_t4 125 rfl (by decide +kernel), in_X11, ⟨by decide +kernel, by decide +kernel⟩⟩
abbrev mX11_covers : Md := (yX11_covers, cX11_covers, 4, (some .int))
set_option maxRecDepth 100000 in
theorem pn_X11_covers : (parseMethodDescriptor mX11_covers.1.desc).map (fun d => d.parameters.length) = some 2 := by decide +kernel
set_option maxRecDepth 100000 in
theorem ok_X11_covers : okV mX11_covers := ⟨TB_t4 130 rfl (by decide +kernel), TB_t4 128 rfl (by decide +kernel), TB_t4 129 rfl (by decide +kernel), in_X11, ⟨by decide +kernel, by decide +kernel⟩⟩
abbrev mX11_sheet : Md := (yX11_sheet, cX11_sheet, 4, (some .int))
set_option maxRecDepth 100000 in
theorem pn_X11_sheet : (parseMethodDescriptor mX11_sheet.1.desc).map (fun d => d.parameters.length) = some 3 := by decide +kernel
set_option maxRecDepth 100000 in
theorem ok_X11_sheet : okV mX11_sheet := ⟨TB_t4 150 rfl (by decide +kernel), TB_t4 148 rfl (by decide +kernel), TB_t4 149 rfl (by decide +kernel), in_X11, ⟨by decide +kernel, by decide +kernel⟩⟩
abbrev mX11_lay : Md := (yX11_lay, cX11_lay, 5, (some .int))
set_option maxRecDepth 100000 in
theorem pn_X11_lay : (parseMethodDescriptor mX11_lay.1.desc).map (fun d => d.parameters.length) = some 3 := by decide +kernel
set_option maxRecDepth 100000 in
theorem ok_X11_lay : okV mX11_lay := ⟨TB_t4 167 rfl (by decide +kernel), TB_t4 165 rfl (by decide +kernel), TB_t4 166 rfl (by decide +kernel), in_X11, ⟨by decide +kernel, by decide +kernel⟩⟩
abbrev mX11_read : Md := (yX11_read, cX11_read, 11, (some .int))
set_option maxRecDepth 100000 in
theorem pn_X11_read : (parseMethodDescriptor mX11_read.1.desc).map (fun d => d.parameters.length) = some 4 := by decide +kernel
set_option maxRecDepth 100000 in
theorem ok_X11_read : okV mX11_read := ⟨TB_t4 180 rfl (by decide +kernel), TB_t4 178 rfl (by decide +kernel), TB_t4 179 rfl (by decide +kernel), in_X11, ⟨by decide +kernel, by decide +kernel⟩⟩
abbrev mX11_torn : Md := (yX11_torn, cX11_torn, 1, (some .int))
set_option maxRecDepth 100000 in
theorem pn_X11_torn : (parseMethodDescriptor mX11_torn.1.desc).map (fun d => d.parameters.length) = some 0 := by decide +kernel
set_option maxRecDepth 100000 in
theorem ok_X11_torn : okV mX11_torn := ⟨TB_t4 184 rfl (by decide +kernel), TB_t4 182 rfl (by decide +kernel), TB_t4 183 rfl (by decide +kernel), in_X11, ⟨by decide +kernel, by decide +kernel⟩⟩
abbrev mX11_count : Md := (yX11_count, cX11_count, 2, (some .int))
set_option maxRecDepth 100000 in
theorem pn_X11_count : (parseMethodDescriptor mX11_count.1.desc).map (fun d => d.parameters.length) = some 1 := by decide +kernel
set_option maxRecDepth 100000 in
theorem ok_X11_count : okV mX11_count := ⟨TB_t4 188 rfl (by decide +kernel), TB_t4 186 rfl (by decide +kernel), TB_t4 187 rfl (by decide +kernel), in_X11, ⟨by decide +kernel, by decide +kernel⟩⟩
abbrev mX11_imagesKept : Md := (yX11_imagesKept, cX11_imagesKept, 3, (some .int))
set_option maxRecDepth 100000 in
theorem pn_X11_imagesKept : (parseMethodDescriptor mX11_imagesKept.1.desc).map (fun d => d.parameters.length) = some 0 := by decide +kernel
set_option maxRecDepth 100000 in
theorem ok_X11_imagesKept : okV mX11_imagesKept := ⟨TB_t4 192 rfl (by decide +kernel), TB_t4 191 rfl (by decide +kernel), TB_p 29 rfl (by decide +kernel), in_X11, ⟨by decide +kernel, by decide +kernel⟩⟩
abbrev mX11_isVariable : Md := (yX11_isVariable, cX11_isVariable, 1, (some .boolean))
set_option maxRecDepth 100000 in
theorem pn_X11_isVariable : (parseMethodDescriptor mX11_isVariable.1.desc).map (fun d => d.parameters.length) = some 1 := by decide +kernel
set_option maxRecDepth 100000 in
theorem ok_X11_isVariable : okS mX11_isVariable := ⟨TB_t3 163 rfl (by decide +kernel), TB_t3 162 rfl (by decide +kernel), in_X11, ⟨by decide +kernel, by decide +kernel⟩⟩
abbrev mX11_isTruth : Md := (yX11_isTruth, cX11_isTruth, 1, (some .boolean))
set_option maxRecDepth 100000 in
theorem pn_X11_isTruth : (parseMethodDescriptor mX11_isTruth.1.desc).map (fun d => d.parameters.length) = some 1 := by decide +kernel
set_option maxRecDepth 100000 in
theorem ok_X11_isTruth : okS mX11_isTruth := ⟨TB_t3 229 rfl (by decide +kernel), TB_t3 228 rfl (by decide +kernel), in_X11, ⟨by decide +kernel, by decide +kernel⟩⟩
abbrev mX11_isSwitch : Md := (yX11_isSwitch, cX11_isSwitch, 1, (some .boolean))
set_option maxRecDepth 100000 in
theorem pn_X11_isSwitch : (parseMethodDescriptor mX11_isSwitch.1.desc).map (fun d => d.parameters.length) = some 1 := by decide +kernel
set_option maxRecDepth 100000 in
theorem ok_X11_isSwitch : okS mX11_isSwitch := ⟨TB_t3 204 rfl (by decide +kernel), TB_t3 203 rfl (by decide +kernel), in_X11, ⟨by decide +kernel, by decide +kernel⟩⟩
abbrev mX11_isImage : Md := (yX11_isImage, cX11_isImage, 1, (some .boolean))
set_option maxRecDepth 100000 in
theorem pn_X11_isImage : (parseMethodDescriptor mX11_isImage.1.desc).map (fun d => d.parameters.length) = some 1 := by decide +kernel
set_option maxRecDepth 100000 in
theorem ok_X11_isImage : okS mX11_isImage := ⟨TB_t4 121 rfl (by decide +kernel), TB_t4 120 rfl (by decide +kernel), in_X11, ⟨by decide +kernel, by decide +kernel⟩⟩
abbrev mX11_isSheet : Md := (yX11_isSheet, cX11_isSheet, 1, (some .boolean))
set_option maxRecDepth 100000 in
theorem pn_X11_isSheet : (parseMethodDescriptor mX11_isSheet.1.desc).map (fun d => d.parameters.length) = some 1 := by decide +kernel
set_option maxRecDepth 100000 in
theorem ok_X11_isSheet : okS mX11_isSheet := ⟨TB_t4 153 rfl (by decide +kernel), TB_t4 152 rfl (by decide +kernel), in_X11, ⟨by decide +kernel, by decide +kernel⟩⟩
abbrev mX11_isLane : Md := (yX11_isLane, cX11_isLane, 1, (some .boolean))
set_option maxRecDepth 100000 in
theorem pn_X11_isLane : (parseMethodDescriptor mX11_isLane.1.desc).map (fun d => d.parameters.length) = some 1 := by decide +kernel
set_option maxRecDepth 100000 in
theorem ok_X11_isLane : okS mX11_isLane := ⟨TB_t4 156 rfl (by decide +kernel), TB_t4 155 rfl (by decide +kernel), in_X11, ⟨by decide +kernel, by decide +kernel⟩⟩
abbrev mX12_init : Md := (yX12_init, cX12_init, 1, none)
set_option maxRecDepth 100000 in
theorem pn_X12_init : (parseMethodDescriptor mX12_init.1.desc).map (fun d => d.parameters.length) = some 0 := by decide +kernel
set_option maxRecDepth 100000 in
theorem ok_X12_init : okI mX12_init := ⟨TB_t4 201 rfl (by decide +kernel), TB_t4 200 rfl (by decide +kernel), in_X12, ⟨by decide +kernel, by decide +kernel⟩, rfl, rfl⟩
abbrev mX12_in : Md := (yX12_in, cX12_in, 6, (some .boolean))
set_option maxRecDepth 100000 in
theorem pn_X12_in : (parseMethodDescriptor mX12_in.1.desc).map (fun d => d.parameters.length) = some 3 := by decide +kernel
set_option maxRecDepth 100000 in
theorem ok_X12_in : okS mX12_in := ⟨TB_t5 58 rfl (by decide +kernel), TB_t5 57 rfl (by decide +kernel), in_X12, ⟨by decide +kernel, by decide +kernel⟩⟩
abbrev mX12_feed : Md := (yX12_feed, cX12_feed, 2, (some .int))
set_option maxRecDepth 100000 in
theorem pn_X12_feed : (parseMethodDescriptor mX12_feed.1.desc).map (fun d => d.parameters.length) = some 1 := by decide +kernel
set_option maxRecDepth 100000 in
theorem ok_X12_feed : okV mX12_feed := ⟨TB_t5 54 rfl (by decide +kernel), TB_t5 52 rfl (by decide +kernel), TB_t5 53 rfl (by decide +kernel), in_X12, ⟨by decide +kernel, by decide +kernel⟩⟩
abbrev mX12_end : Md := (yX12_end, cX12_end, 3, (some .int))
set_option maxRecDepth 100000 in
theorem pn_X12_end : (parseMethodDescriptor mX12_end.1.desc).map (fun d => d.parameters.length) = some 1 := by decide +kernel
set_option maxRecDepth 100000 in
theorem ok_X12_end : okV mX12_end := ⟨TB_t5 62 rfl (by decide +kernel), TB_t5 60 rfl (by decide +kernel), TB_t5 61 rfl (by decide +kernel), in_X12, ⟨by decide +kernel, by decide +kernel⟩⟩
abbrev mX12_byteAt : Md := (yX12_byteAt, cX12_byteAt, 2, (some .int))
set_option maxRecDepth 100000 in
theorem pn_X12_byteAt : (parseMethodDescriptor mX12_byteAt.1.desc).map (fun d => d.parameters.length) = some 1 := by decide +kernel
set_option maxRecDepth 100000 in
theorem ok_X12_byteAt : okV mX12_byteAt := ⟨TB_t5 74 rfl (by decide +kernel), TB_t5 73 rfl (by decide +kernel), TB_p 31 rfl (by decide +kernel), in_X12, ⟨by decide +kernel, by decide +kernel⟩⟩
abbrev mX12_fails : Md := (yX12_fails, cX12_fails, 2, none)
set_option maxRecDepth 100000 in
theorem pn_X12_fails : (parseMethodDescriptor mX12_fails.1.desc).map (fun d => d.parameters.length) = some 1 := by decide +kernel
set_option maxRecDepth 100000 in
theorem ok_X12_fails : okV mX12_fails := ⟨TB_t5 82 rfl (by decide +kernel), TB_t5 81 rfl (by decide +kernel), TB_p 32 rfl (by decide +kernel), in_X12, ⟨by decide +kernel, by decide +kernel⟩⟩
abbrev mX12_nameHere : Md := (yX12_nameHere, cX12_nameHere, 4, (some .int))
set_option maxRecDepth 100000 in
theorem pn_X12_nameHere : (parseMethodDescriptor mX12_nameHere.1.desc).map (fun d => d.parameters.length) = some 0 := by decide +kernel
set_option maxRecDepth 100000 in
theorem ok_X12_nameHere : okV mX12_nameHere := ⟨TB_t5 90 rfl (by decide +kernel), TB_t5 89 rfl (by decide +kernel), TB_p 34 rfl (by decide +kernel), in_X12, ⟨by decide +kernel, by decide +kernel⟩⟩
abbrev mX12_readsOn : Md := (yX12_readsOn, cX12_readsOn, 2, none)
set_option maxRecDepth 100000 in
theorem pn_X12_readsOn : (parseMethodDescriptor mX12_readsOn.1.desc).map (fun d => d.parameters.length) = some 0 := by decide +kernel
set_option maxRecDepth 100000 in
theorem ok_X12_readsOn : okV mX12_readsOn := ⟨TB_t5 70 rfl (by decide +kernel), TB_t5 69 rfl (by decide +kernel), TB_p 30 rfl (by decide +kernel), in_X12, ⟨by decide +kernel, by decide +kernel⟩⟩
abbrev mX12_letterRead : Md := (yX12_letterRead, cX12_letterRead, 3, (some .int))
set_option maxRecDepth 100000 in
theorem pn_X12_letterRead : (parseMethodDescriptor mX12_letterRead.1.desc).map (fun d => d.parameters.length) = some 1 := by decide +kernel
set_option maxRecDepth 100000 in
theorem ok_X12_letterRead : okV mX12_letterRead := ⟨TB_t5 106 rfl (by decide +kernel), TB_t5 105 rfl (by decide +kernel), TB_p 38 rfl (by decide +kernel), in_X12, ⟨by decide +kernel, by decide +kernel⟩⟩
abbrev mX12_variableRead : Md := (yX12_variableRead, cX12_variableRead, 2, (some .int))
set_option maxRecDepth 100000 in
theorem pn_X12_variableRead : (parseMethodDescriptor mX12_variableRead.1.desc).map (fun d => d.parameters.length) = some 0 := by decide +kernel
set_option maxRecDepth 100000 in
theorem ok_X12_variableRead : okV mX12_variableRead := ⟨TB_t5 102 rfl (by decide +kernel), TB_t5 101 rfl (by decide +kernel), TB_p 37 rfl (by decide +kernel), in_X12, ⟨by decide +kernel, by decide +kernel⟩⟩
abbrev mX12_nodeRead : Md := (yX12_nodeRead, cX12_nodeRead, 2, (some .int))
set_option maxRecDepth 100000 in
theorem pn_X12_nodeRead : (parseMethodDescriptor mX12_nodeRead.1.desc).map (fun d => d.parameters.length) = some 0 := by decide +kernel
set_option maxRecDepth 100000 in
theorem ok_X12_nodeRead : okV mX12_nodeRead := ⟨TB_t5 111 rfl (by decide +kernel), TB_t5 110 rfl (by decide +kernel), TB_p 39 rfl (by decide +kernel), in_X12, ⟨by decide +kernel, by decide +kernel⟩⟩
abbrev mX12_truthRead : Md := (yX12_truthRead, cX12_truthRead, 1, (some .int))
set_option maxRecDepth 100000 in
theorem pn_X12_truthRead : (parseMethodDescriptor mX12_truthRead.1.desc).map (fun d => d.parameters.length) = some 0 := by decide +kernel
set_option maxRecDepth 100000 in
theorem ok_X12_truthRead : okV mX12_truthRead := ⟨TB_t5 115 rfl (by decide +kernel), TB_t5 114 rfl (by decide +kernel), TB_p 40 rfl (by decide +kernel), in_X12, ⟨by decide +kernel, by decide +kernel⟩⟩
abbrev mX12_readNode : Md := (yX12_readNode, cX12_readNode, 3, none)
set_option maxRecDepth 100000 in
theorem pn_X12_readNode : (parseMethodDescriptor mX12_readNode.1.desc).map (fun d => d.parameters.length) = some 1 := by decide +kernel
set_option maxRecDepth 100000 in
theorem ok_X12_readNode : okV mX12_readNode := ⟨TB_t5 94 rfl (by decide +kernel), TB_t5 93 rfl (by decide +kernel), TB_p 35 rfl (by decide +kernel), in_X12, ⟨by decide +kernel, by decide +kernel⟩⟩
abbrev mX12_readTold : Md := (yX12_readTold, cX12_readTold, 5, none)
set_option maxRecDepth 100000 in
theorem pn_X12_readTold : (parseMethodDescriptor mX12_readTold.1.desc).map (fun d => d.parameters.length) = some 1 := by decide +kernel
set_option maxRecDepth 100000 in
theorem ok_X12_readTold : okV mX12_readTold := ⟨TB_t5 98 rfl (by decide +kernel), TB_t5 97 rfl (by decide +kernel), TB_p 36 rfl (by decide +kernel), in_X12, ⟨by decide +kernel, by decide +kernel⟩⟩
abbrev mX12_readLetters : Md := (yX12_readLetters, cX12_readLetters, 5, none)
set_option maxRecDepth 100000 in
theorem pn_X12_readLetters : (parseMethodDescriptor mX12_readLetters.1.desc).map (fun d => d.parameters.length) = some 1 := by decide +kernel
set_option maxRecDepth 100000 in
theorem ok_X12_readLetters : okV mX12_readLetters := ⟨TB_t5 123 rfl (by decide +kernel), TB_t5 122 rfl (by decide +kernel), TB_p 42 rfl (by decide +kernel), in_X12, ⟨by decide +kernel, by decide +kernel⟩⟩
abbrev mX12_toldRead : Md := (yX12_toldRead, cX12_toldRead, 4, (some .int))
set_option maxRecDepth 100000 in
theorem pn_X12_toldRead : (parseMethodDescriptor mX12_toldRead.1.desc).map (fun d => d.parameters.length) = some 1 := by decide +kernel
set_option maxRecDepth 100000 in
theorem ok_X12_toldRead : okV mX12_toldRead := ⟨TB_t5 133 rfl (by decide +kernel), TB_t5 132 rfl (by decide +kernel), TB_p 44 rfl (by decide +kernel), in_X12, ⟨by decide +kernel, by decide +kernel⟩⟩
abbrev mX12_readItem : Md := (yX12_readItem, cX12_readItem, 6, (some .int))
set_option maxRecDepth 100000 in
theorem pn_X12_readItem : (parseMethodDescriptor mX12_readItem.1.desc).map (fun d => d.parameters.length) = some 2 := by decide +kernel
set_option maxRecDepth 100000 in
theorem ok_X12_readItem : okV mX12_readItem := ⟨TB_t5 127 rfl (by decide +kernel), TB_t5 126 rfl (by decide +kernel), TB_p 43 rfl (by decide +kernel), in_X12, ⟨by decide +kernel, by decide +kernel⟩⟩
abbrev mX12_readAsk : Md := (yX12_readAsk, cX12_readAsk, 3, none)
set_option maxRecDepth 100000 in
theorem pn_X12_readAsk : (parseMethodDescriptor mX12_readAsk.1.desc).map (fun d => d.parameters.length) = some 0 := by decide +kernel
set_option maxRecDepth 100000 in
theorem ok_X12_readAsk : okV mX12_readAsk := ⟨TB_t5 119 rfl (by decide +kernel), TB_t5 118 rfl (by decide +kernel), TB_p 41 rfl (by decide +kernel), in_X12, ⟨by decide +kernel, by decide +kernel⟩⟩
abbrev mX12_readLine : Md := (yX12_readLine, cX12_readLine, 2, none)
set_option maxRecDepth 100000 in
theorem pn_X12_readLine : (parseMethodDescriptor mX12_readLine.1.desc).map (fun d => d.parameters.length) = some 0 := by decide +kernel
set_option maxRecDepth 100000 in
theorem ok_X12_readLine : okV mX12_readLine := ⟨TB_t5 86 rfl (by decide +kernel), TB_t5 85 rfl (by decide +kernel), TB_p 33 rfl (by decide +kernel), in_X12, ⟨by decide +kernel, by decide +kernel⟩⟩
abbrev mX12_text : Md := (yX12_text, cX12_text, 3, (some .int))
set_option maxRecDepth 100000 in
theorem pn_X12_text : (parseMethodDescriptor mX12_text.1.desc).map (fun d => d.parameters.length) = some 0 := by decide +kernel
set_option maxRecDepth 100000 in
theorem ok_X12_text : okV mX12_text := ⟨TB_t5 66 rfl (by decide +kernel), TB_t5 64 rfl (by decide +kernel), TB_t5 65 rfl (by decide +kernel), in_X12, ⟨by decide +kernel, by decide +kernel⟩⟩
abbrev mX12_fault : Md := (yX12_fault, cX12_fault, 1, (some .int))
set_option maxRecDepth 100000 in
theorem pn_X12_fault : (parseMethodDescriptor mX12_fault.1.desc).map (fun d => d.parameters.length) = some 0 := by decide +kernel
set_option maxRecDepth 100000 in
theorem ok_X12_fault : okV mX12_fault := ⟨TB_t5 142 rfl (by decide +kernel), TB_t5 140 rfl (by decide +kernel), TB_t5 141 rfl (by decide +kernel), in_X12, ⟨by decide +kernel, by decide +kernel⟩⟩
abbrev mX12_copies : Md := (yX12_copies, cX12_copies, 4, none)
set_option maxRecDepth 100000 in
theorem pn_X12_copies : (parseMethodDescriptor mX12_copies.1.desc).map (fun d => d.parameters.length) = some 2 := by decide +kernel
set_option maxRecDepth 100000 in
theorem ok_X12_copies : okV mX12_copies := ⟨TB_t5 138 rfl (by decide +kernel), TB_t5 137 rfl (by decide +kernel), TB_p 45 rfl (by decide +kernel), in_X12, ⟨by decide +kernel, by decide +kernel⟩⟩
abbrev mX12_nodes : Md := (yX12_nodes, cX12_nodes, 1, (some .int))
set_option maxRecDepth 100000 in
theorem pn_X12_nodes : (parseMethodDescriptor mX12_nodes.1.desc).map (fun d => d.parameters.length) = some 0 := by decide +kernel
set_option maxRecDepth 100000 in
theorem ok_X12_nodes : okV mX12_nodes := ⟨TB_t5 150 rfl (by decide +kernel), TB_t5 149 rfl (by decide +kernel), TB_p 46 rfl (by decide +kernel), in_X12, ⟨by decide +kernel, by decide +kernel⟩⟩
abbrev mX12_and : Md := (yX12_and, cX12_and, 2, (some .int))
set_option maxRecDepth 100000 in
theorem pn_X12_and : (parseMethodDescriptor mX12_and.1.desc).map (fun d => d.parameters.length) = some 2 := by decide +kernel
set_option maxRecDepth 100000 in
theorem ok_X12_and : okS mX12_and := ⟨TB_t5 174 rfl (by decide +kernel), TB_t5 173 rfl (by decide +kernel), in_X12, ⟨by decide +kernel, by decide +kernel⟩⟩
abbrev mX12_or : Md := (yX12_or, cX12_or, 2, (some .int))
set_option maxRecDepth 100000 in
theorem pn_X12_or : (parseMethodDescriptor mX12_or.1.desc).map (fun d => d.parameters.length) = some 2 := by decide +kernel
set_option maxRecDepth 100000 in
theorem ok_X12_or : okS mX12_or := ⟨TB_t5 177 rfl (by decide +kernel), TB_t5 176 rfl (by decide +kernel), in_X12, ⟨by decide +kernel, by decide +kernel⟩⟩
abbrev mX12_atOf : Md := (yX12_atOf, cX12_atOf, 3, (some .int))
set_option maxRecDepth 100000 in
theorem pn_X12_atOf : (parseMethodDescriptor mX12_atOf.1.desc).map (fun d => d.parameters.length) = some 2 := by decide +kernel
set_option maxRecDepth 100000 in
theorem ok_X12_atOf : okV mX12_atOf := ⟨TB_t5 181 rfl (by decide +kernel), TB_t5 180 rfl (by decide +kernel), TB_p 51 rfl (by decide +kernel), in_X12, ⟨by decide +kernel, by decide +kernel⟩⟩
abbrev mX12_nextOf : Md := (yX12_nextOf, cX12_nextOf, 3, (some .int))
set_option maxRecDepth 100000 in
theorem pn_X12_nextOf : (parseMethodDescriptor mX12_nextOf.1.desc).map (fun d => d.parameters.length) = some 2 := by decide +kernel
set_option maxRecDepth 100000 in
theorem ok_X12_nextOf : okV mX12_nextOf := ⟨TB_t5 197 rfl (by decide +kernel), TB_t5 196 rfl (by decide +kernel), TB_p 54 rfl (by decide +kernel), in_X12, ⟨by decide +kernel, by decide +kernel⟩⟩
abbrev mX12_sameOf : Md := (yX12_sameOf, cX12_sameOf, 3, (some .int))
set_option maxRecDepth 100000 in
theorem pn_X12_sameOf : (parseMethodDescriptor mX12_sameOf.1.desc).map (fun d => d.parameters.length) = some 2 := by decide +kernel
set_option maxRecDepth 100000 in
theorem ok_X12_sameOf : okV mX12_sameOf := ⟨TB_t5 189 rfl (by decide +kernel), TB_t5 188 rfl (by decide +kernel), TB_p 53 rfl (by decide +kernel), in_X12, ⟨by decide +kernel, by decide +kernel⟩⟩
abbrev mX12_routesAll : Md := (yX12_routesAll, cX12_routesAll, 3, none)
set_option maxRecDepth 100000 in
theorem pn_X12_routesAll : (parseMethodDescriptor mX12_routesAll.1.desc).map (fun d => d.parameters.length) = some 0 := by decide +kernel
set_option maxRecDepth 100000 in
theorem ok_X12_routesAll : okV mX12_routesAll := ⟨TB_t5 171 rfl (by decide +kernel), TB_t5 170 rfl (by decide +kernel), TB_p 50 rfl (by decide +kernel), in_X12, ⟨by decide +kernel, by decide +kernel⟩⟩
abbrev mX12_reachOf : Md := (yX12_reachOf, cX12_reachOf, 5, (some .int))
set_option maxRecDepth 100000 in
theorem pn_X12_reachOf : (parseMethodDescriptor mX12_reachOf.1.desc).map (fun d => d.parameters.length) = some 2 := by decide +kernel
set_option maxRecDepth 100000 in
theorem ok_X12_reachOf : okV mX12_reachOf := ⟨TB_t5 185 rfl (by decide +kernel), TB_t5 184 rfl (by decide +kernel), TB_p 52 rfl (by decide +kernel), in_X12, ⟨by decide +kernel, by decide +kernel⟩⟩
abbrev mX12_heldOf : Md := (yX12_heldOf, cX12_heldOf, 4, (some .int))
set_option maxRecDepth 100000 in
theorem pn_X12_heldOf : (parseMethodDescriptor mX12_heldOf.1.desc).map (fun d => d.parameters.length) = some 1 := by decide +kernel
set_option maxRecDepth 100000 in
theorem ok_X12_heldOf : okV mX12_heldOf := ⟨TB_t5 208 rfl (by decide +kernel), TB_t5 207 rfl (by decide +kernel), TB_p 55 rfl (by decide +kernel), in_X12, ⟨by decide +kernel, by decide +kernel⟩⟩
abbrev mX12_manyOf : Md := (yX12_manyOf, cX12_manyOf, 6, (some .int))
set_option maxRecDepth 100000 in
theorem pn_X12_manyOf : (parseMethodDescriptor mX12_manyOf.1.desc).map (fun d => d.parameters.length) = some 3 := by decide +kernel
set_option maxRecDepth 100000 in
theorem ok_X12_manyOf : okV mX12_manyOf := ⟨TB_t5 154 rfl (by decide +kernel), TB_t5 153 rfl (by decide +kernel), TB_p 47 rfl (by decide +kernel), in_X12, ⟨by decide +kernel, by decide +kernel⟩⟩
abbrev mX12_isHeap : Md := (yX12_isHeap, cX12_isHeap, 3, (some .boolean))
set_option maxRecDepth 100000 in
theorem pn_X12_isHeap : (parseMethodDescriptor mX12_isHeap.1.desc).map (fun d => d.parameters.length) = some 0 := by decide +kernel
set_option maxRecDepth 100000 in
theorem ok_X12_isHeap : okV mX12_isHeap := ⟨TB_t5 158 rfl (by decide +kernel), TB_t5 157 rfl (by decide +kernel), TB_p 48 rfl (by decide +kernel), in_X12, ⟨by decide +kernel, by decide +kernel⟩⟩
abbrev mX12_rule : Md := (yX12_rule, cX12_rule, 2, (some .int))
set_option maxRecDepth 100000 in
theorem pn_X12_rule : (parseMethodDescriptor mX12_rule.1.desc).map (fun d => d.parameters.length) = some 1 := by decide +kernel
set_option maxRecDepth 100000 in
theorem ok_X12_rule : okV mX12_rule := ⟨TB_t5 146 rfl (by decide +kernel), TB_t5 144 rfl (by decide +kernel), TB_t5 145 rfl (by decide +kernel), in_X12, ⟨by decide +kernel, by decide +kernel⟩⟩
abbrev mX12_isNode : Md := (yX12_isNode, cX12_isNode, 2, (some .boolean))
set_option maxRecDepth 100000 in
theorem pn_X12_isNode : (parseMethodDescriptor mX12_isNode.1.desc).map (fun d => d.parameters.length) = some 1 := by decide +kernel
set_option maxRecDepth 100000 in
theorem ok_X12_isNode : okV mX12_isNode := ⟨TB_t5 166 rfl (by decide +kernel), TB_t5 165 rfl (by decide +kernel), TB_p 49 rfl (by decide +kernel), in_X12, ⟨by decide +kernel, by decide +kernel⟩⟩
abbrev mX12_isVariable : Md := (yX12_isVariable, cX12_isVariable, 1, (some .boolean))
set_option maxRecDepth 100000 in
theorem pn_X12_isVariable : (parseMethodDescriptor mX12_isVariable.1.desc).map (fun d => d.parameters.length) = some 1 := by decide +kernel
set_option maxRecDepth 100000 in
theorem ok_X12_isVariable : okS mX12_isVariable := ⟨TB_t5 204 rfl (by decide +kernel), TB_t5 203 rfl (by decide +kernel), in_X12, ⟨by decide +kernel, by decide +kernel⟩⟩
abbrev mX12_isFormula : Md := (yX12_isFormula, cX12_isFormula, 2, (some .boolean))
set_option maxRecDepth 100000 in
theorem pn_X12_isFormula : (parseMethodDescriptor mX12_isFormula.1.desc).map (fun d => d.parameters.length) = some 1 := by decide +kernel
set_option maxRecDepth 100000 in
theorem ok_X12_isFormula : okV mX12_isFormula := ⟨TB_t5 216 rfl (by decide +kernel), TB_t5 215 rfl (by decide +kernel), TB_p 56 rfl (by decide +kernel), in_X12, ⟨by decide +kernel, by decide +kernel⟩⟩
abbrev mX12_isFlag : Md := (yX12_isFlag, cX12_isFlag, 1, (some .boolean))
set_option maxRecDepth 100000 in
theorem pn_X12_isFlag : (parseMethodDescriptor mX12_isFlag.1.desc).map (fun d => d.parameters.length) = some 1 := by decide +kernel
set_option maxRecDepth 100000 in
theorem ok_X12_isFlag : okS mX12_isFlag := ⟨TB_t6 11 rfl (by decide +kernel), TB_t6 10 rfl (by decide +kernel), in_X12, ⟨by decide +kernel, by decide +kernel⟩⟩
abbrev mX12_node : Md := (yX12_node, cX12_node, 3, (some .int))
set_option maxRecDepth 100000 in
theorem pn_X12_node : (parseMethodDescriptor mX12_node.1.desc).map (fun d => d.parameters.length) = some 2 := by decide +kernel
set_option maxRecDepth 100000 in
theorem ok_X12_node : okV mX12_node := ⟨TB_t5 162 rfl (by decide +kernel), TB_t5 160 rfl (by decide +kernel), TB_t5 161 rfl (by decide +kernel), in_X12, ⟨by decide +kernel, by decide +kernel⟩⟩
abbrev mX12_pair : Md := (yX12_pair, cX12_pair, 4, (some .int))
set_option maxRecDepth 100000 in
theorem pn_X12_pair : (parseMethodDescriptor mX12_pair.1.desc).map (fun d => d.parameters.length) = some 3 := by decide +kernel
set_option maxRecDepth 100000 in
theorem ok_X12_pair : okV mX12_pair := ⟨TB_t5 193 rfl (by decide +kernel), TB_t5 191 rfl (by decide +kernel), TB_t5 192 rfl (by decide +kernel), in_X12, ⟨by decide +kernel, by decide +kernel⟩⟩
abbrev mX12_held : Md := (yX12_held, cX12_held, 2, (some .int))
set_option maxRecDepth 100000 in
theorem pn_X12_held : (parseMethodDescriptor mX12_held.1.desc).map (fun d => d.parameters.length) = some 1 := by decide +kernel
set_option maxRecDepth 100000 in
theorem ok_X12_held : okV mX12_held := ⟨TB_t5 201 rfl (by decide +kernel), TB_t5 199 rfl (by decide +kernel), TB_t5 200 rfl (by decide +kernel), in_X12, ⟨by decide +kernel, by decide +kernel⟩⟩
abbrev mX12_told : Md := (yX12_told, cX12_told, 4, (some .int))
set_option maxRecDepth 100000 in
theorem pn_X12_told : (parseMethodDescriptor mX12_told.1.desc).map (fun d => d.parameters.length) = some 1 := by decide +kernel
set_option maxRecDepth 100000 in
theorem ok_X12_told : okV mX12_told := ⟨TB_t5 224 rfl (by decide +kernel), TB_t5 223 rfl (by decide +kernel), TB_p 58 rfl (by decide +kernel), in_X12, ⟨by decide +kernel, by decide +kernel⟩⟩
abbrev mX12_itemsOf : Md := (yX12_itemsOf, cX12_itemsOf, 6, (some .int))
set_option maxRecDepth 100000 in
theorem pn_X12_itemsOf : (parseMethodDescriptor mX12_itemsOf.1.desc).map (fun d => d.parameters.length) = some 1 := by decide +kernel
set_option maxRecDepth 100000 in
theorem ok_X12_itemsOf : okV mX12_itemsOf := ⟨TB_t5 220 rfl (by decide +kernel), TB_t5 219 rfl (by decide +kernel), TB_p 57 rfl (by decide +kernel), in_X12, ⟨by decide +kernel, by decide +kernel⟩⟩
abbrev mX12_joined : Md := (yX12_joined, cX12_joined, 5, (some .int))
set_option maxRecDepth 100000 in
theorem pn_X12_joined : (parseMethodDescriptor mX12_joined.1.desc).map (fun d => d.parameters.length) = some 4 := by decide +kernel
set_option maxRecDepth 100000 in
theorem ok_X12_joined : okV mX12_joined := ⟨TB_t6 0 rfl (by decide +kernel), TB_t5 239 rfl (by decide +kernel), TB_p 62 rfl (by decide +kernel), in_X12, ⟨by decide +kernel, by decide +kernel⟩⟩
abbrev mX12_begins : Md := (yX12_begins, cX12_begins, 3, (some .int))
set_option maxRecDepth 100000 in
theorem pn_X12_begins : (parseMethodDescriptor mX12_begins.1.desc).map (fun d => d.parameters.length) = some 2 := by decide +kernel
set_option maxRecDepth 100000 in
theorem ok_X12_begins : okV mX12_begins := ⟨TB_t5 228 rfl (by decide +kernel), TB_t5 227 rfl (by decide +kernel), TB_p 59 rfl (by decide +kernel), in_X12, ⟨by decide +kernel, by decide +kernel⟩⟩
abbrev mX12_thirdOf : Md := (yX12_thirdOf, cX12_thirdOf, 4, (some .int))
set_option maxRecDepth 100000 in
theorem pn_X12_thirdOf : (parseMethodDescriptor mX12_thirdOf.1.desc).map (fun d => d.parameters.length) = some 1 := by decide +kernel
set_option maxRecDepth 100000 in
theorem ok_X12_thirdOf : okV mX12_thirdOf := ⟨TB_t5 236 rfl (by decide +kernel), TB_t5 235 rfl (by decide +kernel), TB_p 61 rfl (by decide +kernel), in_X12, ⟨by decide +kernel, by decide +kernel⟩⟩
abbrev mX12_secondOf : Md := (yX12_secondOf, cX12_secondOf, 4, (some .int))
set_option maxRecDepth 100000 in
theorem pn_X12_secondOf : (parseMethodDescriptor mX12_secondOf.1.desc).map (fun d => d.parameters.length) = some 1 := by decide +kernel
set_option maxRecDepth 100000 in
theorem ok_X12_secondOf : okV mX12_secondOf := ⟨TB_t5 232 rfl (by decide +kernel), TB_t5 231 rfl (by decide +kernel), TB_p 60 rfl (by decide +kernel), in_X12, ⟨by decide +kernel, by decide +kernel⟩⟩
abbrev mX12_ask : Md := (yX12_ask, cX12_ask, 5, (some .int))
set_option maxRecDepth 100000 in
theorem pn_X12_ask : (parseMethodDescriptor mX12_ask.1.desc).map (fun d => d.parameters.length) = some 1 := by decide +kernel
set_option maxRecDepth 100000 in
theorem ok_X12_ask : okV mX12_ask := ⟨TB_t5 212 rfl (by decide +kernel), TB_t5 210 rfl (by decide +kernel), TB_t5 211 rfl (by decide +kernel), in_X12, ⟨by decide +kernel, by decide +kernel⟩⟩
abbrev mX12_formula : Md := (yX12_formula, cX12_formula, 3, (some .int))
set_option maxRecDepth 100000 in
theorem pn_X12_formula : (parseMethodDescriptor mX12_formula.1.desc).map (fun d => d.parameters.length) = some 2 := by decide +kernel
set_option maxRecDepth 100000 in
theorem ok_X12_formula : okV mX12_formula := ⟨TB_t6 4 rfl (by decide +kernel), TB_t6 2 rfl (by decide +kernel), TB_t6 3 rfl (by decide +kernel), in_X12, ⟨by decide +kernel, by decide +kernel⟩⟩
abbrev mX12_comes : Md := (yX12_comes, cX12_comes, 4, none)
set_option maxRecDepth 100000 in
theorem pn_X12_comes : (parseMethodDescriptor mX12_comes.1.desc).map (fun d => d.parameters.length) = some 1 := by decide +kernel
set_option maxRecDepth 100000 in
theorem ok_X12_comes : okV mX12_comes := ⟨TB_t6 15 rfl (by decide +kernel), TB_t6 14 rfl (by decide +kernel), TB_p 63 rfl (by decide +kernel), in_X12, ⟨by decide +kernel, by decide +kernel⟩⟩
abbrev mX12_add : Md := (yX12_add, cX12_add, 2, (some .int))
set_option maxRecDepth 100000 in
theorem pn_X12_add : (parseMethodDescriptor mX12_add.1.desc).map (fun d => d.parameters.length) = some 1 := by decide +kernel
set_option maxRecDepth 100000 in
theorem ok_X12_add : okV mX12_add := ⟨TB_t6 8 rfl (by decide +kernel), TB_t6 6 rfl (by decide +kernel), TB_t6 7 rfl (by decide +kernel), in_X12, ⟨by decide +kernel, by decide +kernel⟩⟩
abbrev mX12_movesDown : Md := (yX12_movesDown, cX12_movesDown, 4, none)
set_option maxRecDepth 100000 in
theorem pn_X12_movesDown : (parseMethodDescriptor mX12_movesDown.1.desc).map (fun d => d.parameters.length) = some 2 := by decide +kernel
set_option maxRecDepth 100000 in
theorem ok_X12_movesDown : okV mX12_movesDown := ⟨TB_t6 23 rfl (by decide +kernel), TB_t6 22 rfl (by decide +kernel), TB_p 64 rfl (by decide +kernel), in_X12, ⟨by decide +kernel, by decide +kernel⟩⟩
abbrev mX12_lose : Md := (yX12_lose, cX12_lose, 4, (some .int))
set_option maxRecDepth 100000 in
theorem pn_X12_lose : (parseMethodDescriptor mX12_lose.1.desc).map (fun d => d.parameters.length) = some 1 := by decide +kernel
set_option maxRecDepth 100000 in
theorem ok_X12_lose : okV mX12_lose := ⟨TB_t6 19 rfl (by decide +kernel), TB_t6 17 rfl (by decide +kernel), TB_t6 18 rfl (by decide +kernel), in_X12, ⟨by decide +kernel, by decide +kernel⟩⟩
abbrev mX12_becomes : Md := (yX12_becomes, cX12_becomes, 5, (some .int))
set_option maxRecDepth 100000 in
theorem pn_X12_becomes : (parseMethodDescriptor mX12_becomes.1.desc).map (fun d => d.parameters.length) = some 3 := by decide +kernel
set_option maxRecDepth 100000 in
theorem ok_X12_becomes : okV mX12_becomes := ⟨TB_t6 31 rfl (by decide +kernel), TB_t6 30 rfl (by decide +kernel), TB_p 65 rfl (by decide +kernel), in_X12, ⟨by decide +kernel, by decide +kernel⟩⟩
abbrev mX12_many : Md := (yX12_many, cX12_many, 3, (some .int))
set_option maxRecDepth 100000 in
theorem pn_X12_many : (parseMethodDescriptor mX12_many.1.desc).map (fun d => d.parameters.length) = some 2 := by decide +kernel
set_option maxRecDepth 100000 in
theorem ok_X12_many : okV mX12_many := ⟨TB_t6 27 rfl (by decide +kernel), TB_t6 25 rfl (by decide +kernel), TB_t6 26 rfl (by decide +kernel), in_X12, ⟨by decide +kernel, by decide +kernel⟩⟩
abbrev mX12_place : Md := (yX12_place, cX12_place, 4, (some .int))
set_option maxRecDepth 100000 in
theorem pn_X12_place : (parseMethodDescriptor mX12_place.1.desc).map (fun d => d.parameters.length) = some 3 := by decide +kernel
set_option maxRecDepth 100000 in
theorem ok_X12_place : okV mX12_place := ⟨TB_t6 35 rfl (by decide +kernel), TB_t6 33 rfl (by decide +kernel), TB_t6 34 rfl (by decide +kernel), in_X12, ⟨by decide +kernel, by decide +kernel⟩⟩
abbrev mX12_lead : Md := (yX12_lead, cX12_lead, 4, (some .int))
set_option maxRecDepth 100000 in
theorem pn_X12_lead : (parseMethodDescriptor mX12_lead.1.desc).map (fun d => d.parameters.length) = some 3 := by decide +kernel
set_option maxRecDepth 100000 in
theorem ok_X12_lead : okV mX12_lead := ⟨TB_t6 39 rfl (by decide +kernel), TB_t6 37 rfl (by decide +kernel), TB_t6 38 rfl (by decide +kernel), in_X12, ⟨by decide +kernel, by decide +kernel⟩⟩
abbrev mX12_leads : Md := (yX12_leads, cX12_leads, 6, none)
set_option maxRecDepth 100000 in
theorem pn_X12_leads : (parseMethodDescriptor mX12_leads.1.desc).map (fun d => d.parameters.length) = some 3 := by decide +kernel
set_option maxRecDepth 100000 in
theorem ok_X12_leads : okV mX12_leads := ⟨TB_t6 60 rfl (by decide +kernel), TB_t6 59 rfl (by decide +kernel), TB_p 69 rfl (by decide +kernel), in_X12, ⟨by decide +kernel, by decide +kernel⟩⟩
abbrev mX12_becomesNext : Md := (yX12_becomesNext, cX12_becomesNext, 5, none)
set_option maxRecDepth 100000 in
theorem pn_X12_becomesNext : (parseMethodDescriptor mX12_becomesNext.1.desc).map (fun d => d.parameters.length) = some 2 := by decide +kernel
set_option maxRecDepth 100000 in
theorem ok_X12_becomesNext : okV mX12_becomesNext := ⟨TB_t6 56 rfl (by decide +kernel), TB_t6 55 rfl (by decide +kernel), TB_p 68 rfl (by decide +kernel), in_X12, ⟨by decide +kernel, by decide +kernel⟩⟩
abbrev mX12_isAtAlone : Md := (yX12_isAtAlone, cX12_isAtAlone, 4, none)
set_option maxRecDepth 100000 in
theorem pn_X12_isAtAlone : (parseMethodDescriptor mX12_isAtAlone.1.desc).map (fun d => d.parameters.length) = some 2 := by decide +kernel
set_option maxRecDepth 100000 in
theorem ok_X12_isAtAlone : okV mX12_isAtAlone := ⟨TB_t6 52 rfl (by decide +kernel), TB_t6 51 rfl (by decide +kernel), TB_p 67 rfl (by decide +kernel), in_X12, ⟨by decide +kernel, by decide +kernel⟩⟩
abbrev mX12_does : Md := (yX12_does, cX12_does, 7, (some .int))
set_option maxRecDepth 100000 in
theorem pn_X12_does : (parseMethodDescriptor mX12_does.1.desc).map (fun d => d.parameters.length) = some 3 := by decide +kernel
set_option maxRecDepth 100000 in
theorem ok_X12_does : okV mX12_does := ⟨TB_t6 47 rfl (by decide +kernel), TB_t6 46 rfl (by decide +kernel), TB_p 66 rfl (by decide +kernel), in_X12, ⟨by decide +kernel, by decide +kernel⟩⟩
abbrev mX12_deed : Md := (yX12_deed, cX12_deed, 4, (some .int))
set_option maxRecDepth 100000 in
theorem pn_X12_deed : (parseMethodDescriptor mX12_deed.1.desc).map (fun d => d.parameters.length) = some 3 := by decide +kernel
set_option maxRecDepth 100000 in
theorem ok_X12_deed : okV mX12_deed := ⟨TB_t6 43 rfl (by decide +kernel), TB_t6 41 rfl (by decide +kernel), TB_t6 42 rfl (by decide +kernel), in_X12, ⟨by decide +kernel, by decide +kernel⟩⟩
abbrev mX12_isAlike : Md := (yX12_isAlike, cX12_isAlike, 6, (some .boolean))
set_option maxRecDepth 100000 in
theorem pn_X12_isAlike : (parseMethodDescriptor mX12_isAlike.1.desc).map (fun d => d.parameters.length) = some 3 := by decide +kernel
set_option maxRecDepth 100000 in
theorem ok_X12_isAlike : okV mX12_isAlike := ⟨TB_t6 72 rfl (by decide +kernel), TB_t6 71 rfl (by decide +kernel), TB_p 71 rfl (by decide +kernel), in_X12, ⟨by decide +kernel, by decide +kernel⟩⟩
abbrev mX12_grouped : Md := (yX12_grouped, cX12_grouped, 5, (some .int))
set_option maxRecDepth 100000 in
theorem pn_X12_grouped : (parseMethodDescriptor mX12_grouped.1.desc).map (fun d => d.parameters.length) = some 1 := by decide +kernel
set_option maxRecDepth 100000 in
theorem ok_X12_grouped : okV mX12_grouped := ⟨TB_t6 68 rfl (by decide +kernel), TB_t6 67 rfl (by decide +kernel), TB_p 70 rfl (by decide +kernel), in_X12, ⟨by decide +kernel, by decide +kernel⟩⟩
abbrev mX12_fold : Md := (yX12_fold, cX12_fold, 9, (some .int))
set_option maxRecDepth 100000 in
theorem pn_X12_fold : (parseMethodDescriptor mX12_fold.1.desc).map (fun d => d.parameters.length) = some 1 := by decide +kernel
set_option maxRecDepth 100000 in
theorem ok_X12_fold : okV mX12_fold := ⟨TB_t6 64 rfl (by decide +kernel), TB_t6 62 rfl (by decide +kernel), TB_t6 63 rfl (by decide +kernel), in_X12, ⟨by decide +kernel, by decide +kernel⟩⟩
abbrev mX12_isAlone : Md := (yX12_isAlone, cX12_isAlone, 5, (some .boolean))
set_option maxRecDepth 100000 in
theorem pn_X12_isAlone : (parseMethodDescriptor mX12_isAlone.1.desc).map (fun d => d.parameters.length) = some 2 := by decide +kernel
set_option maxRecDepth 100000 in
theorem ok_X12_isAlone : okV mX12_isAlone := ⟨TB_t6 84 rfl (by decide +kernel), TB_t6 83 rfl (by decide +kernel), TB_p 73 rfl (by decide +kernel), in_X12, ⟨by decide +kernel, by decide +kernel⟩⟩
abbrev mX12_isSharper : Md := (yX12_isSharper, cX12_isSharper, 4, (some .boolean))
set_option maxRecDepth 100000 in
theorem pn_X12_isSharper : (parseMethodDescriptor mX12_isSharper.1.desc).map (fun d => d.parameters.length) = some 0 := by decide +kernel
set_option maxRecDepth 100000 in
theorem ok_X12_isSharper : okV mX12_isSharper := ⟨TB_t6 80 rfl (by decide +kernel), TB_t6 79 rfl (by decide +kernel), TB_p 72 rfl (by decide +kernel), in_X12, ⟨by decide +kernel, by decide +kernel⟩⟩
abbrev mX12_sharpen : Md := (yX12_sharpen, cX12_sharpen, 4, (some .int))
set_option maxRecDepth 100000 in
theorem pn_X12_sharpen : (parseMethodDescriptor mX12_sharpen.1.desc).map (fun d => d.parameters.length) = some 0 := by decide +kernel
set_option maxRecDepth 100000 in
theorem ok_X12_sharpen : okV mX12_sharpen := ⟨TB_t6 76 rfl (by decide +kernel), TB_t6 74 rfl (by decide +kernel), TB_t6 75 rfl (by decide +kernel), in_X12, ⟨by decide +kernel, by decide +kernel⟩⟩
abbrev mX12_wayOf : Md := (yX12_wayOf, cX12_wayOf, 6, (some .int))
set_option maxRecDepth 100000 in
theorem pn_X12_wayOf : (parseMethodDescriptor mX12_wayOf.1.desc).map (fun d => d.parameters.length) = some 2 := by decide +kernel
set_option maxRecDepth 100000 in
theorem ok_X12_wayOf : okV mX12_wayOf := ⟨TB_t6 92 rfl (by decide +kernel), TB_t6 91 rfl (by decide +kernel), TB_p 74 rfl (by decide +kernel), in_X12, ⟨by decide +kernel, by decide +kernel⟩⟩
abbrev mX12_ways : Md := (yX12_ways, cX12_ways, 3, (some .int))
set_option maxRecDepth 100000 in
theorem pn_X12_ways : (parseMethodDescriptor mX12_ways.1.desc).map (fun d => d.parameters.length) = some 1 := by decide +kernel
set_option maxRecDepth 100000 in
theorem ok_X12_ways : okV mX12_ways := ⟨TB_t6 88 rfl (by decide +kernel), TB_t6 86 rfl (by decide +kernel), TB_t6 87 rfl (by decide +kernel), in_X12, ⟨by decide +kernel, by decide +kernel⟩⟩
abbrev mX12_twins : Md := (yX12_twins, cX12_twins, 5, none)
set_option maxRecDepth 100000 in
theorem pn_X12_twins : (parseMethodDescriptor mX12_twins.1.desc).map (fun d => d.parameters.length) = some 2 := by decide +kernel
set_option maxRecDepth 100000 in
theorem ok_X12_twins : okV mX12_twins := ⟨TB_t6 100 rfl (by decide +kernel), TB_t6 99 rfl (by decide +kernel), TB_p 75 rfl (by decide +kernel), in_X12, ⟨by decide +kernel, by decide +kernel⟩⟩
abbrev mX12_split : Md := (yX12_split, cX12_split, 4, (some .int))
set_option maxRecDepth 100000 in
theorem pn_X12_split : (parseMethodDescriptor mX12_split.1.desc).map (fun d => d.parameters.length) = some 2 := by decide +kernel
set_option maxRecDepth 100000 in
theorem ok_X12_split : okV mX12_split := ⟨TB_t6 96 rfl (by decide +kernel), TB_t6 94 rfl (by decide +kernel), TB_t6 95 rfl (by decide +kernel), in_X12, ⟨by decide +kernel, by decide +kernel⟩⟩
abbrev mX12_run : Md := (yX12_run, cX12_run, 7, (some .int))
set_option maxRecDepth 100000 in
theorem pn_X12_run : (parseMethodDescriptor mX12_run.1.desc).map (fun d => d.parameters.length) = some 2 := by decide +kernel
set_option maxRecDepth 100000 in
theorem ok_X12_run : okV mX12_run := ⟨TB_t6 104 rfl (by decide +kernel), TB_t6 102 rfl (by decide +kernel), TB_t6 103 rfl (by decide +kernel), in_X12, ⟨by decide +kernel, by decide +kernel⟩⟩
abbrev mX12_keep : Md := (yX12_keep, cX12_keep, 3, (some .int))
set_option maxRecDepth 100000 in
theorem pn_X12_keep : (parseMethodDescriptor mX12_keep.1.desc).map (fun d => d.parameters.length) = some 1 := by decide +kernel
set_option maxRecDepth 100000 in
theorem ok_X12_keep : okV mX12_keep := ⟨TB_t6 110 rfl (by decide +kernel), TB_t6 108 rfl (by decide +kernel), TB_t6 109 rfl (by decide +kernel), in_X12, ⟨by decide +kernel, by decide +kernel⟩⟩
abbrev mX12_back : Md := (yX12_back, cX12_back, 2, (some .int))
set_option maxRecDepth 100000 in
theorem pn_X12_back : (parseMethodDescriptor mX12_back.1.desc).map (fun d => d.parameters.length) = some 1 := by decide +kernel
set_option maxRecDepth 100000 in
theorem ok_X12_back : okV mX12_back := ⟨TB_t6 114 rfl (by decide +kernel), TB_t6 112 rfl (by decide +kernel), TB_t6 113 rfl (by decide +kernel), in_X12, ⟨by decide +kernel, by decide +kernel⟩⟩
abbrev mX12_isLike : Md := (yX12_isLike, cX12_isLike, 3, (some .boolean))
set_option maxRecDepth 100000 in
theorem pn_X12_isLike : (parseMethodDescriptor mX12_isLike.1.desc).map (fun d => d.parameters.length) = some 2 := by decide +kernel
set_option maxRecDepth 100000 in
theorem ok_X12_isLike : okV mX12_isLike := ⟨TB_t6 130 rfl (by decide +kernel), TB_t6 129 rfl (by decide +kernel), TB_p 78 rfl (by decide +kernel), in_X12, ⟨by decide +kernel, by decide +kernel⟩⟩
abbrev mX12_isFitting : Md := (yX12_isFitting, cX12_isFitting, 6, (some .boolean))
set_option maxRecDepth 100000 in
theorem pn_X12_isFitting : (parseMethodDescriptor mX12_isFitting.1.desc).map (fun d => d.parameters.length) = some 3 := by decide +kernel
set_option maxRecDepth 100000 in
theorem ok_X12_isFitting : okV mX12_isFitting := ⟨TB_t6 126 rfl (by decide +kernel), TB_t6 125 rfl (by decide +kernel), TB_p 77 rfl (by decide +kernel), in_X12, ⟨by decide +kernel, by decide +kernel⟩⟩
abbrev mX12_isOnto : Md := (yX12_isOnto, cX12_isOnto, 5, (some .boolean))
set_option maxRecDepth 100000 in
theorem pn_X12_isOnto : (parseMethodDescriptor mX12_isOnto.1.desc).map (fun d => d.parameters.length) = some 2 := by decide +kernel
set_option maxRecDepth 100000 in
theorem ok_X12_isOnto : okV mX12_isOnto := ⟨TB_t6 134 rfl (by decide +kernel), TB_t6 133 rfl (by decide +kernel), TB_p 79 rfl (by decide +kernel), in_X12, ⟨by decide +kernel, by decide +kernel⟩⟩
abbrev mX12_isCovering : Md := (yX12_isCovering, cX12_isCovering, 6, (some .boolean))
set_option maxRecDepth 100000 in
theorem pn_X12_isCovering : (parseMethodDescriptor mX12_isCovering.1.desc).map (fun d => d.parameters.length) = some 2 := by decide +kernel
set_option maxRecDepth 100000 in
theorem ok_X12_isCovering : okV mX12_isCovering := ⟨TB_t6 122 rfl (by decide +kernel), TB_t6 121 rfl (by decide +kernel), TB_p 76 rfl (by decide +kernel), in_X12, ⟨by decide +kernel, by decide +kernel⟩⟩
abbrev mX12_covers : Md := (yX12_covers, cX12_covers, 4, (some .int))
set_option maxRecDepth 100000 in
theorem pn_X12_covers : (parseMethodDescriptor mX12_covers.1.desc).map (fun d => d.parameters.length) = some 2 := by decide +kernel
set_option maxRecDepth 100000 in
theorem ok_X12_covers : okV mX12_covers := ⟨TB_t6 118 rfl (by decide +kernel), TB_t6 116 rfl (by decide +kernel), TB_t6 117 rfl (by decide +kernel), in_X12, ⟨by decide +kernel, by decide +kernel⟩⟩
abbrev mX12_sheet : Md := (yX12_sheet, cX12_sheet, 5, (some .int))
set_option maxRecDepth 100000 in
theorem pn_X12_sheet : (parseMethodDescriptor mX12_sheet.1.desc).map (fun d => d.parameters.length) = some 3 := by decide +kernel
set_option maxRecDepth 100000 in
theorem ok_X12_sheet : okV mX12_sheet := ⟨TB_t6 138 rfl (by decide +kernel), TB_t6 136 rfl (by decide +kernel), TB_t6 137 rfl (by decide +kernel), in_X12, ⟨by decide +kernel, by decide +kernel⟩⟩
abbrev mX12_lay : Md := (yX12_lay, cX12_lay, 4, (some .int))
set_option maxRecDepth 100000 in
theorem pn_X12_lay : (parseMethodDescriptor mX12_lay.1.desc).map (fun d => d.parameters.length) = some 3 := by decide +kernel
set_option maxRecDepth 100000 in
theorem ok_X12_lay : okV mX12_lay := ⟨TB_t6 142 rfl (by decide +kernel), TB_t6 140 rfl (by decide +kernel), TB_t6 141 rfl (by decide +kernel), in_X12, ⟨by decide +kernel, by decide +kernel⟩⟩
abbrev mX12_read : Md := (yX12_read, cX12_read, 11, (some .int))
set_option maxRecDepth 100000 in
theorem pn_X12_read : (parseMethodDescriptor mX12_read.1.desc).map (fun d => d.parameters.length) = some 4 := by decide +kernel
set_option maxRecDepth 100000 in
theorem ok_X12_read : okV mX12_read := ⟨TB_t6 146 rfl (by decide +kernel), TB_t6 144 rfl (by decide +kernel), TB_t6 145 rfl (by decide +kernel), in_X12, ⟨by decide +kernel, by decide +kernel⟩⟩
abbrev mX12_torn : Md := (yX12_torn, cX12_torn, 1, (some .int))
set_option maxRecDepth 100000 in
theorem pn_X12_torn : (parseMethodDescriptor mX12_torn.1.desc).map (fun d => d.parameters.length) = some 0 := by decide +kernel
set_option maxRecDepth 100000 in
theorem ok_X12_torn : okV mX12_torn := ⟨TB_t6 151 rfl (by decide +kernel), TB_t6 149 rfl (by decide +kernel), TB_t6 150 rfl (by decide +kernel), in_X12, ⟨by decide +kernel, by decide +kernel⟩⟩
abbrev mX12_count : Md := (yX12_count, cX12_count, 4, (some .int))
set_option maxRecDepth 100000 in
theorem pn_X12_count : (parseMethodDescriptor mX12_count.1.desc).map (fun d => d.parameters.length) = some 1 := by decide +kernel
set_option maxRecDepth 100000 in
theorem ok_X12_count : okV mX12_count := ⟨TB_t6 155 rfl (by decide +kernel), TB_t6 153 rfl (by decide +kernel), TB_t6 154 rfl (by decide +kernel), in_X12, ⟨by decide +kernel, by decide +kernel⟩⟩
abbrev mJ9_max_7cf53 : Md := (yJ9_max_7cf53, cJ9_max_7cf53, 2, (some .int))
set_option maxRecDepth 100000 in
theorem pn_J9_max_7cf53 : (parseMethodDescriptor mJ9_max_7cf53.1.desc).map (fun d => d.parameters.length) = some 2 := by decide +kernel
set_option maxRecDepth 100000 in
theorem ok_J9_max_7cf53 : okS mJ9_max_7cf53 := ⟨TB_t3 28 rfl (by decide +kernel), TB_t3 27 rfl (by decide +kernel), in_J9, ⟨by decide +kernel, by decide +kernel⟩⟩
abbrev mJ9_min_7cf53 : Md := (yJ9_min_7cf53, cJ9_min_7cf53, 2, (some .int))
set_option maxRecDepth 100000 in
theorem pn_J9_min_7cf53 : (parseMethodDescriptor mJ9_min_7cf53.1.desc).map (fun d => d.parameters.length) = some 2 := by decide +kernel
set_option maxRecDepth 100000 in
theorem ok_J9_min_7cf53 : okS mJ9_min_7cf53 := ⟨TB_t3 142 rfl (by decide +kernel), TB_t3 141 rfl (by decide +kernel), in_J9, ⟨by decide +kernel, by decide +kernel⟩⟩
abbrev mJ0_length_8abf5 : Md := (yJ0_length_8abf5, cJ0_length_8abf5, 1, (some .int))
set_option maxRecDepth 100000 in
theorem pn_J0_length_8abf5 : (parseMethodDescriptor mJ0_length_8abf5.1.desc).map (fun d => d.parameters.length) = some 0 := by decide +kernel
set_option maxRecDepth 100000 in
theorem ok_J0_length_8abf5 : okV mJ0_length_8abf5 := ⟨TB_t2 170 rfl (by decide +kernel), TB_t2 168 rfl (by decide +kernel), TB_t2 169 rfl (by decide +kernel), in_J0, ⟨by decide +kernel, by decide +kernel⟩⟩
abbrev mJ0_charAt_5068e : Md := (yJ0_charAt_5068e, cJ0_charAt_5068e, 2, (some .char))
set_option maxRecDepth 100000 in
theorem pn_J0_charAt_5068e : (parseMethodDescriptor mJ0_charAt_5068e.1.desc).map (fun d => d.parameters.length) = some 1 := by decide +kernel
set_option maxRecDepth 100000 in
theorem ok_J0_charAt_5068e : okV mJ0_charAt_5068e := ⟨TB_t2 180 rfl (by decide +kernel), TB_t2 178 rfl (by decide +kernel), TB_t2 179 rfl (by decide +kernel), in_J0, ⟨by decide +kernel, by decide +kernel⟩⟩
abbrev mJ0_coder_7d493 : Md := (yJ0_coder_7d493, cJ0_coder_7d493, 1, (some .byte))
set_option maxRecDepth 100000 in
theorem pn_J0_coder_7d493 : (parseMethodDescriptor mJ0_coder_7d493.1.desc).map (fun d => d.parameters.length) = some 0 := by decide +kernel
set_option maxRecDepth 100000 in
theorem ok_J0_coder_7d493 : okV mJ0_coder_7d493 := ⟨TB_t2 174 rfl (by decide +kernel), TB_t2 172 rfl (by decide +kernel), TB_t2 173 rfl (by decide +kernel), in_J0, ⟨by decide +kernel, by decide +kernel⟩⟩
abbrev mJ0_isLatin1_aae02 : Md := (yJ0_isLatin1_aae02, cJ0_isLatin1_aae02, 1, (some .boolean))
set_option maxRecDepth 100000 in
theorem pn_J0_isLatin1_aae02 : (parseMethodDescriptor mJ0_isLatin1_aae02.1.desc).map (fun d => d.parameters.length) = some 0 := by decide +kernel
set_option maxRecDepth 100000 in
theorem ok_J0_isLatin1_aae02 : okV mJ0_isLatin1_aae02 := ⟨TB_t2 184 rfl (by decide +kernel), TB_t2 182 rfl (by decide +kernel), TB_t2 183 rfl (by decide +kernel), in_J0, ⟨by decide +kernel, by decide +kernel⟩⟩
abbrev mJ0_checkIndex_df160 : Md := (yJ0_checkIndex_df160, cJ0_checkIndex_df160, 2, none)
set_option maxRecDepth 100000 in
theorem pn_J0_checkIndex_df160 : (parseMethodDescriptor mJ0_checkIndex_df160.1.desc).map (fun d => d.parameters.length) = some 2 := by decide +kernel
set_option maxRecDepth 100000 in
theorem ok_J0_checkIndex_df160 : okS mJ0_checkIndex_df160 := ⟨TB_t2 190 rfl (by decide +kernel), TB_t2 189 rfl (by decide +kernel), in_J0, ⟨by decide +kernel, by decide +kernel⟩⟩
abbrev mJ1_charAt_3b067 : Md := (yJ1_charAt_3b067, cJ1_charAt_3b067, 2, (some .char))
set_option maxRecDepth 100000 in
theorem pn_J1_charAt_3b067 : (parseMethodDescriptor mJ1_charAt_3b067.1.desc).map (fun d => d.parameters.length) = some 2 := by decide +kernel
set_option maxRecDepth 100000 in
theorem ok_J1_charAt_3b067 : okS mJ1_charAt_3b067 := ⟨TB_t2 187 rfl (by decide +kernel), TB_t2 186 rfl (by decide +kernel), in_J1, ⟨by decide +kernel, by decide +kernel⟩⟩
abbrev mJ2_getChar_3b067 : Md := (yJ2_getChar_3b067, cJ2_getChar_3b067, 2, (some .char))
set_option maxRecDepth 100000 in
theorem pn_J2_getChar_3b067 : (parseMethodDescriptor mJ2_getChar_3b067.1.desc).map (fun d => d.parameters.length) = some 2 := by decide +kernel
set_option maxRecDepth 100000 in
theorem ok_J2_getChar_3b067 : okS mJ2_getChar_3b067 := ⟨TB_t2 208 rfl (by decide +kernel), TB_t2 207 rfl (by decide +kernel), in_J2, ⟨by decide +kernel, by decide +kernel⟩⟩
abbrev mJ2_length_9d52b : Md := (yJ2_length_9d52b, cJ2_length_9d52b, 1, (some .int))
set_option maxRecDepth 100000 in
theorem pn_J2_length_9d52b : (parseMethodDescriptor mJ2_length_9d52b.1.desc).map (fun d => d.parameters.length) = some 1 := by decide +kernel
set_option maxRecDepth 100000 in
theorem ok_J2_length_9d52b : okS mJ2_length_9d52b := ⟨TB_t2 204 rfl (by decide +kernel), TB_t2 203 rfl (by decide +kernel), in_J2, ⟨by decide +kernel, by decide +kernel⟩⟩
abbrev mJ2_charAt_3b067 : Md := (yJ2_charAt_3b067, cJ2_charAt_3b067, 2, (some .char))
set_option maxRecDepth 100000 in
theorem pn_J2_charAt_3b067 : (parseMethodDescriptor mJ2_charAt_3b067.1.desc).map (fun d => d.parameters.length) = some 2 := by decide +kernel
set_option maxRecDepth 100000 in
theorem ok_J2_charAt_3b067 : okS mJ2_charAt_3b067 := ⟨TB_t2 198 rfl (by decide +kernel), TB_t2 197 rfl (by decide +kernel), in_J2, ⟨by decide +kernel, by decide +kernel⟩⟩
abbrev mJ2_checkIndex_2214a : Md := (yJ2_checkIndex_2214a, cJ2_checkIndex_2214a, 2, none)
set_option maxRecDepth 100000 in
theorem pn_J2_checkIndex_2214a : (parseMethodDescriptor mJ2_checkIndex_2214a.1.desc).map (fun d => d.parameters.length) = some 2 := by decide +kernel
set_option maxRecDepth 100000 in
theorem ok_J2_checkIndex_2214a : okS mJ2_checkIndex_2214a := ⟨TB_t2 201 rfl (by decide +kernel), TB_t2 200 rfl (by decide +kernel), in_J2, ⟨by decide +kernel, by decide +kernel⟩⟩
abbrev mJ7_fill_53178 : Md := (yJ7_fill_53178, cJ7_fill_53178, 4, none)
set_option maxRecDepth 100000 in
theorem pn_J7_fill_53178 : (parseMethodDescriptor mJ7_fill_53178.1.desc).map (fun d => d.parameters.length) = some 2 := by decide +kernel
set_option maxRecDepth 100000 in
theorem ok_J7_fill_53178 : okS mJ7_fill_53178 := ⟨TB_t2 149 rfl (by decide +kernel), TB_t2 148 rfl (by decide +kernel), in_J7, ⟨by decide +kernel, by decide +kernel⟩⟩
abbrev mJ3_checkIndex_8e157 : Md := (yJ3_checkIndex_8e157, cJ3_checkIndex_8e157, 3, (some .int))
set_option maxRecDepth 100000 in
theorem pn_J3_checkIndex_8e157 : (parseMethodDescriptor mJ3_checkIndex_8e157.1.desc).map (fun d => d.parameters.length) = some 3 := by decide +kernel
set_option maxRecDepth 100000 in
theorem ok_J3_checkIndex_8e157 : okS mJ3_checkIndex_8e157 := ⟨TB_t2 195 rfl (by decide +kernel), TB_t2 194 rfl (by decide +kernel), in_J3, ⟨by decide +kernel, by decide +kernel⟩⟩
