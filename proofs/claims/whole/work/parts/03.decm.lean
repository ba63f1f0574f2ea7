set_option maxRecDepth 20000 in
theorem ggX8_init_X8_first : GoodIn wsX8_init wsX8_first := goodIn_r _ [22, 9, 10, 27, 28, 29, 30, 31, 32, 33, 34, 35, 36, 37, 38, 39, 40, 41, 42, 43, 44, 45] (by decide +kernel) (by decide +kernel)
set_option maxRecDepth 20000 in
theorem gX8_init_X8_first : GoodIn wsX8_init (wsV RX8 49 RX8 yX8_first wsX8_first) := goodIn_app (goodIn_of _ (by decide +kernel)) ggX8_init_X8_first
set_option maxRecDepth 20000 in
theorem ggX8_init_X8_due : GoodIn wsX8_init wsX8_due := goodIn_r _ [26, 9, 27, 28, 29, 30, 31, 32, 33, 34, 35, 36, 37, 38, 39, 40, 41, 42, 43, 44, 45] (by decide +kernel) (by decide +kernel)
set_option maxRecDepth 20000 in
theorem gX8_init_X8_due : GoodIn wsX8_init (wsV RX8 53 RX8 yX8_due wsX8_due) := goodIn_app (goodIn_of _ (by decide +kernel)) ggX8_init_X8_due
theorem dX8_init_0 : decode cX8_init 0 = .ok (.aload_n 0, 1) := by decide +kernel
theorem dX8_init_1 : decode cX8_init 1 = .ok (.invokespecial 1, 3) := by decide +kernel
theorem dX8_init_4 : decode cX8_init 4 = .ok (.aload_n 0, 1) := by decide +kernel
theorem dX8_init_5 : decode cX8_init 5 = .ok (.sipush 200, 3) := by decide +kernel
theorem dX8_init_8 : decode cX8_init 8 = .ok (.newarray .int, 2) := by decide +kernel
theorem dX8_init_10 : decode cX8_init 10 = .ok (.putfield 7, 3) := by decide +kernel
theorem dX8_init_13 : decode cX8_init 13 = .ok (.aload_n 0, 1) := by decide +kernel
theorem dX8_init_14 : decode cX8_init 14 = .ok (.iconst 3, 1) := by decide +kernel
theorem dX8_init_15 : decode cX8_init 15 = .ok (.newarray .int, 2) := by decide +kernel
theorem dX8_init_17 : decode cX8_init 17 = .ok (.putfield 13, 3) := by decide +kernel
theorem dX8_init_20 : decode cX8_init 20 = .ok (.aload_n 0, 1) := by decide +kernel
theorem dX8_init_21 : decode cX8_init 21 = .ok (.bipush 22, 2) := by decide +kernel
theorem dX8_init_23 : decode cX8_init 23 = .ok (.newarray .int, 2) := by decide +kernel
theorem dX8_init_25 : decode cX8_init 25 = .ok (.putfield 16, 3) := by decide +kernel
theorem dX8_init_28 : decode cX8_init 28 = .ok (.aload_n 0, 1) := by decide +kernel
theorem dX8_init_29 : decode cX8_init 29 = .ok (.bipush 26, 2) := by decide +kernel
theorem dX8_init_31 : decode cX8_init 31 = .ok (.newarray .int, 2) := by decide +kernel
theorem dX8_init_33 : decode cX8_init 33 = .ok (.putfield 19, 3) := by decide +kernel
theorem dX8_init_36 : decode cX8_init 36 = .ok (.aload_n 0, 1) := by decide +kernel
theorem dX8_init_37 : decode cX8_init 37 = .ok (.bipush 22, 2) := by decide +kernel
theorem dX8_init_39 : decode cX8_init 39 = .ok (.newarray .int, 2) := by decide +kernel
theorem dX8_init_41 : decode cX8_init 41 = .ok (.putfield 22, 3) := by decide +kernel
theorem dX8_init_44 : decode cX8_init 44 = .ok (.aload_n 0, 1) := by decide +kernel
theorem dX8_init_45 : decode cX8_init 45 = .ok (.bipush 26, 2) := by decide +kernel
theorem dX8_init_47 : decode cX8_init 47 = .ok (.newarray .int, 2) := by decide +kernel
theorem dX8_init_49 : decode cX8_init 49 = .ok (.putfield 25, 3) := by decide +kernel
theorem dX8_init_52 : decode cX8_init 52 = .ok (.aload_n 0, 1) := by decide +kernel
theorem dX8_init_53 : decode cX8_init 53 = .ok (.bipush 26, 2) := by decide +kernel
theorem dX8_init_55 : decode cX8_init 55 = .ok (.newarray .int, 2) := by decide +kernel
theorem dX8_init_57 : decode cX8_init 57 = .ok (.putfield 28, 3) := by decide +kernel
theorem dX8_init_60 : decode cX8_init 60 = .ok (.aload_n 0, 1) := by decide +kernel
theorem dX8_init_61 : decode cX8_init 61 = .ok (.sipush 208, 3) := by decide +kernel
theorem dX8_init_64 : decode cX8_init 64 = .ok (.newarray .int, 2) := by decide +kernel
theorem dX8_init_66 : decode cX8_init 66 = .ok (.putfield 31, 3) := by decide +kernel
theorem dX8_init_69 : decode cX8_init 69 = .ok (.aload_n 0, 1) := by decide +kernel
theorem dX8_init_70 : decode cX8_init 70 = .ok (.bipush 6, 2) := by decide +kernel
theorem dX8_init_72 : decode cX8_init 72 = .ok (.newarray .int, 2) := by decide +kernel
theorem dX8_init_74 : decode cX8_init 74 = .ok (.putfield 34, 3) := by decide +kernel
theorem dX8_init_77 : decode cX8_init 77 = .ok (.aload_n 0, 1) := by decide +kernel
theorem dX8_init_78 : decode cX8_init 78 = .ok (.bipush 6, 2) := by decide +kernel
theorem dX8_init_80 : decode cX8_init 80 = .ok (.newarray .int, 2) := by decide +kernel
theorem dX8_init_82 : decode cX8_init 82 = .ok (.putfield 37, 3) := by decide +kernel
theorem dX8_init_85 : decode cX8_init 85 = .ok (.aload_n 0, 1) := by decide +kernel
theorem dX8_init_86 : decode cX8_init 86 = .ok (.bipush 24, 2) := by decide +kernel
theorem dX8_init_88 : decode cX8_init 88 = .ok (.newarray .int, 2) := by decide +kernel
theorem dX8_init_90 : decode cX8_init 90 = .ok (.putfield 40, 3) := by decide +kernel
theorem dX8_init_93 : decode cX8_init 93 = .ok (.aload_n 0, 1) := by decide +kernel
theorem dX8_init_94 : decode cX8_init 94 = .ok (.bipush 24, 2) := by decide +kernel
theorem dX8_init_96 : decode cX8_init 96 = .ok (.newarray .int, 2) := by decide +kernel
theorem dX8_init_98 : decode cX8_init 98 = .ok (.putfield 43, 3) := by decide +kernel
theorem dX8_init_101 : decode cX8_init 101 = .ok (.aload_n 0, 1) := by decide +kernel
theorem dX8_init_102 : decode cX8_init 102 = .ok (.bipush 52, 2) := by decide +kernel
theorem dX8_init_104 : decode cX8_init 104 = .ok (.newarray .int, 2) := by decide +kernel
theorem dX8_init_106 : decode cX8_init 106 = .ok (.putfield 46, 3) := by decide +kernel
theorem dX8_init_109 : decode cX8_init 109 = .ok (.aload_n 0, 1) := by decide +kernel
theorem dX8_init_110 : decode cX8_init 110 = .ok (.getfield 22, 3) := by decide +kernel
theorem dX8_init_113 : decode cX8_init 113 = .ok (.iconst 0, 1) := by decide +kernel
theorem dX8_init_114 : decode cX8_init 114 = .ok (.bipush 6, 2) := by decide +kernel
theorem dX8_init_116 : decode cX8_init 116 = .ok (.iastore, 1) := by decide +kernel
theorem dX8_init_117 : decode cX8_init 117 = .ok (.aload_n 0, 1) := by decide +kernel
theorem dX8_init_118 : decode cX8_init 118 = .ok (.getfield 22, 3) := by decide +kernel
theorem dX8_init_121 : decode cX8_init 121 = .ok (.iconst 1, 1) := by decide +kernel
theorem dX8_init_122 : decode cX8_init 122 = .ok (.iconst 5, 1) := by decide +kernel
theorem dX8_init_123 : decode cX8_init 123 = .ok (.iastore, 1) := by decide +kernel
theorem dX8_init_124 : decode cX8_init 124 = .ok (.aload_n 0, 1) := by decide +kernel
theorem dX8_init_125 : decode cX8_init 125 = .ok (.getfield 22, 3) := by decide +kernel
theorem dX8_init_128 : decode cX8_init 128 = .ok (.iconst 2, 1) := by decide +kernel
theorem dX8_init_129 : decode cX8_init 129 = .ok (.iconst 4, 1) := by decide +kernel
theorem dX8_init_130 : decode cX8_init 130 = .ok (.iastore, 1) := by decide +kernel
theorem dX8_init_131 : decode cX8_init 131 = .ok (.aload_n 0, 1) := by decide +kernel
theorem dX8_init_132 : decode cX8_init 132 = .ok (.getfield 22, 3) := by decide +kernel
theorem dX8_init_135 : decode cX8_init 135 = .ok (.iconst 3, 1) := by decide +kernel
theorem dX8_init_136 : decode cX8_init 136 = .ok (.iconst 5, 1) := by decide +kernel
theorem dX8_init_137 : decode cX8_init 137 = .ok (.iastore, 1) := by decide +kernel
theorem dX8_init_138 : decode cX8_init 138 = .ok (.aload_n 0, 1) := by decide +kernel
theorem dX8_init_139 : decode cX8_init 139 = .ok (.iconst 0, 1) := by decide +kernel
theorem dX8_init_140 : decode cX8_init 140 = .ok (.iconst 0, 1) := by decide +kernel
theorem dX8_init_141 : decode cX8_init 141 = .ok (.bipush 10, 2) := by decide +kernel
theorem dX8_init_143 : decode cX8_init 143 = .ok (.iconst 2, 1) := by decide +kernel
theorem dX8_init_144 : decode cX8_init 144 = .ok (.invokevirtual 49, 3) := by decide +kernel
theorem dX8_init_147 : decode cX8_init 147 = .ok (.aload_n 0, 1) := by decide +kernel
theorem dX8_init_148 : decode cX8_init 148 = .ok (.iconst 1, 1) := by decide +kernel
theorem dX8_init_149 : decode cX8_init 149 = .ok (.iconst 1, 1) := by decide +kernel
theorem dX8_init_150 : decode cX8_init 150 = .ok (.bipush 18, 2) := by decide +kernel
theorem dX8_init_152 : decode cX8_init 152 = .ok (.iconst 0, 1) := by decide +kernel
theorem dX8_init_153 : decode cX8_init 153 = .ok (.invokevirtual 49, 3) := by decide +kernel
theorem dX8_init_156 : decode cX8_init 156 = .ok (.aload_n 0, 1) := by decide +kernel
theorem dX8_init_157 : decode cX8_init 157 = .ok (.iconst 2, 1) := by decide +kernel
theorem dX8_init_158 : decode cX8_init 158 = .ok (.iconst 2, 1) := by decide +kernel
theorem dX8_init_159 : decode cX8_init 159 = .ok (.bipush 7, 2) := by decide +kernel
theorem dX8_init_161 : decode cX8_init 161 = .ok (.iconst 4, 1) := by decide +kernel
theorem dX8_init_162 : decode cX8_init 162 = .ok (.invokevirtual 49, 3) := by decide +kernel
theorem dX8_init_165 : decode cX8_init 165 = .ok (.aload_n 0, 1) := by decide +kernel
theorem dX8_init_166 : decode cX8_init 166 = .ok (.iconst 3, 1) := by decide +kernel
theorem dX8_init_167 : decode cX8_init 167 = .ok (.iconst 3, 1) := by decide +kernel
theorem dX8_init_168 : decode cX8_init 168 = .ok (.bipush 14, 2) := by decide +kernel
theorem dX8_init_170 : decode cX8_init 170 = .ok (.iconst 1, 1) := by decide +kernel
theorem dX8_init_171 : decode cX8_init 171 = .ok (.invokevirtual 49, 3) := by decide +kernel
theorem dX8_init_174 : decode cX8_init 174 = .ok (.aload_n 0, 1) := by decide +kernel
theorem dX8_init_175 : decode cX8_init 175 = .ok (.iconst 4, 1) := by decide +kernel
theorem dX8_init_176 : decode cX8_init 176 = .ok (.iconst 0, 1) := by decide +kernel
theorem dX8_init_177 : decode cX8_init 177 = .ok (.bipush 11, 2) := by decide +kernel
theorem dX8_init_179 : decode cX8_init 179 = .ok (.bipush 8, 2) := by decide +kernel
theorem dX8_init_181 : decode cX8_init 181 = .ok (.invokevirtual 49, 3) := by decide +kernel
theorem dX8_init_184 : decode cX8_init 184 = .ok (.aload_n 0, 1) := by decide +kernel
theorem dX8_init_185 : decode cX8_init 185 = .ok (.getfield 25, 3) := by decide +kernel
theorem dX8_init_188 : decode cX8_init 188 = .ok (.bipush 18, 2) := by decide +kernel
theorem dX8_init_190 : decode cX8_init 190 = .ok (.iconst 2, 1) := by decide +kernel
theorem dX8_init_191 : decode cX8_init 191 = .ok (.iastore, 1) := by decide +kernel
theorem dX8_init_192 : decode cX8_init 192 = .ok (.iconst 0, 1) := by decide +kernel
theorem dX8_init_193 : decode cX8_init 193 = .ok (.istore_n 1, 1) := by decide +kernel
theorem dX8_init_194 : decode cX8_init 194 = .ok (.iload_n 1, 1) := by decide +kernel
theorem dX8_init_195 : decode cX8_init 195 = .ok (.iconst 5, 1) := by decide +kernel
theorem dX8_init_196 : decode cX8_init 196 = .ok (.if_icmp .ge 20, 3) := by decide +kernel
theorem dX8_init_199 : decode cX8_init 199 = .ok (.aload_n 0, 1) := by decide +kernel
theorem dX8_init_200 : decode cX8_init 200 = .ok (.getfield 25, 3) := by decide +kernel
theorem dX8_init_203 : decode cX8_init 203 = .ok (.bipush 21, 2) := by decide +kernel
theorem dX8_init_205 : decode cX8_init 205 = .ok (.iload_n 1, 1) := by decide +kernel
theorem dX8_init_206 : decode cX8_init 206 = .ok (.iadd, 1) := by decide +kernel
theorem dX8_init_207 : decode cX8_init 207 = .ok (.bipush (-4), 2) := by decide +kernel
theorem dX8_init_209 : decode cX8_init 209 = .ok (.iastore, 1) := by decide +kernel
theorem dX8_init_210 : decode cX8_init 210 = .ok (.iinc 1 1, 3) := by decide +kernel
theorem dX8_init_213 : decode cX8_init 213 = .ok (.goto (-19), 3) := by decide +kernel
theorem dX8_init_216 : decode cX8_init 216 = .ok (.aload_n 0, 1) := by decide +kernel
theorem dX8_init_217 : decode cX8_init 217 = .ok (.iconst 0, 1) := by decide +kernel
theorem dX8_init_218 : decode cX8_init 218 = .ok (.iconst 1, 1) := by decide +kernel
theorem dX8_init_219 : decode cX8_init 219 = .ok (.bipush 13, 2) := by decide +kernel
theorem dX8_init_221 : decode cX8_init 221 = .ok (.invokevirtual 53, 3) := by decide +kernel
theorem dX8_init_224 : decode cX8_init 224 = .ok (.aload_n 0, 1) := by decide +kernel
theorem dX8_init_225 : decode cX8_init 225 = .ok (.iconst 1, 1) := by decide +kernel
theorem dX8_init_226 : decode cX8_init 226 = .ok (.iconst 2, 1) := by decide +kernel
theorem dX8_init_227 : decode cX8_init 227 = .ok (.bipush 19, 2) := by decide +kernel
theorem dX8_init_229 : decode cX8_init 229 = .ok (.invokevirtual 53, 3) := by decide +kernel
theorem dX8_init_232 : decode cX8_init 232 = .ok (.aload_n 0, 1) := by decide +kernel
theorem dX8_init_233 : decode cX8_init 233 = .ok (.iconst 2, 1) := by decide +kernel
theorem dX8_init_234 : decode cX8_init 234 = .ok (.iconst 3, 1) := by decide +kernel
theorem dX8_init_235 : decode cX8_init 235 = .ok (.bipush 10, 2) := by decide +kernel
theorem dX8_init_237 : decode cX8_init 237 = .ok (.invokevirtual 53, 3) := by decide +kernel
theorem dX8_init_240 : decode cX8_init 240 = .ok (.aload_n 0, 1) := by decide +kernel
theorem dX8_init_241 : decode cX8_init 241 = .ok (.iconst 3, 1) := by decide +kernel
theorem dX8_init_242 : decode cX8_init 242 = .ok (.iconst 5, 1) := by decide +kernel
theorem dX8_init_243 : decode cX8_init 243 = .ok (.bipush 15, 2) := by decide +kernel
theorem dX8_init_245 : decode cX8_init 245 = .ok (.invokevirtual 53, 3) := by decide +kernel
theorem dX8_init_248 : decode cX8_init 248 = .ok (.aload_n 0, 1) := by decide +kernel
theorem dX8_init_249 : decode cX8_init 249 = .ok (.iconst 4, 1) := by decide +kernel
theorem dX8_init_250 : decode cX8_init 250 = .ok (.iconst 0, 1) := by decide +kernel
theorem dX8_init_251 : decode cX8_init 251 = .ok (.bipush 12, 2) := by decide +kernel
theorem dX8_init_253 : decode cX8_init 253 = .ok (.invokevirtual 53, 3) := by decide +kernel
theorem dX8_init_256 : decode cX8_init 256 = .ok (.return_, 1) := by decide +kernel
theorem dX8_first_0 : decode cX8_first 0 = .ok (.aload_n 0, 1) := by decide +kernel
theorem dX8_first_1 : decode cX8_first 1 = .ok (.getfield 22, 3) := by decide +kernel
theorem dX8_first_4 : decode cX8_first 4 = .ok (.iconst 4, 1) := by decide +kernel
theorem dX8_first_5 : decode cX8_first 5 = .ok (.iload_n 1, 1) := by decide +kernel
theorem dX8_first_6 : decode cX8_first 6 = .ok (.iadd, 1) := by decide +kernel
theorem dX8_first_7 : decode cX8_first 7 = .ok (.iload_n 2, 1) := by decide +kernel
theorem dX8_first_8 : decode cX8_first 8 = .ok (.iastore, 1) := by decide +kernel
theorem dX8_first_9 : decode cX8_first 9 = .ok (.aload_n 0, 1) := by decide +kernel
theorem dX8_first_10 : decode cX8_first 10 = .ok (.getfield 25, 3) := by decide +kernel
theorem dX8_first_13 : decode cX8_first 13 = .ok (.iconst 4, 1) := by decide +kernel
theorem dX8_first_14 : decode cX8_first 14 = .ok (.iload_n 1, 1) := by decide +kernel
theorem dX8_first_15 : decode cX8_first 15 = .ok (.iadd, 1) := by decide +kernel
theorem dX8_first_16 : decode cX8_first 16 = .ok (.iload_n 3, 1) := by decide +kernel
theorem dX8_first_17 : decode cX8_first 17 = .ok (.iastore, 1) := by decide +kernel
theorem dX8_first_18 : decode cX8_first 18 = .ok (.aload_n 0, 1) := by decide +kernel
theorem dX8_first_19 : decode cX8_first 19 = .ok (.getfield 25, 3) := by decide +kernel
theorem dX8_first_22 : decode cX8_first 22 = .ok (.bipush 10, 2) := by decide +kernel
theorem dX8_first_24 : decode cX8_first 24 = .ok (.iload_n 1, 1) := by decide +kernel
theorem dX8_first_25 : decode cX8_first 25 = .ok (.iadd, 1) := by decide +kernel
theorem dX8_first_26 : decode cX8_first 26 = .ok (.iload 4, 2) := by decide +kernel
theorem dX8_first_28 : decode cX8_first 28 = .ok (.iastore, 1) := by decide +kernel
theorem dX8_first_29 : decode cX8_first 29 = .ok (.return_, 1) := by decide +kernel
theorem dX8_due_0 : decode cX8_due 0 = .ok (.aload_n 0, 1) := by decide +kernel
theorem dX8_due_1 : decode cX8_due 1 = .ok (.getfield 22, 3) := by decide +kernel
theorem dX8_due_4 : decode cX8_due 4 = .ok (.bipush 10, 2) := by decide +kernel
theorem dX8_due_6 : decode cX8_due 6 = .ok (.iload_n 1, 1) := by decide +kernel
theorem dX8_due_7 : decode cX8_due 7 = .ok (.iadd, 1) := by decide +kernel
theorem dX8_due_8 : decode cX8_due 8 = .ok (.iload_n 2, 1) := by decide +kernel
theorem dX8_due_9 : decode cX8_due 9 = .ok (.iastore, 1) := by decide +kernel
theorem dX8_due_10 : decode cX8_due 10 = .ok (.aload_n 0, 1) := by decide +kernel
theorem dX8_due_11 : decode cX8_due 11 = .ok (.getfield 22, 3) := by decide +kernel
theorem dX8_due_14 : decode cX8_due 14 = .ok (.bipush 16, 2) := by decide +kernel
theorem dX8_due_16 : decode cX8_due 16 = .ok (.iload_n 1, 1) := by decide +kernel
theorem dX8_due_17 : decode cX8_due 17 = .ok (.iadd, 1) := by decide +kernel
theorem dX8_due_18 : decode cX8_due 18 = .ok (.iload_n 3, 1) := by decide +kernel
theorem dX8_due_19 : decode cX8_due 19 = .ok (.iastore, 1) := by decide +kernel
theorem dX8_due_20 : decode cX8_due 20 = .ok (.return_, 1) := by decide +kernel
theorem dX8_in_0 : decode cX8_in 0 = .ok (.iload_n 0, 1) := by decide +kernel
theorem dX8_in_1 : decode cX8_in 1 = .ok (.iload_n 1, 1) := by decide +kernel
theorem dX8_in_2 : decode cX8_in 2 = .ok (.if_icmp .lt 12, 3) := by decide +kernel
theorem dX8_in_5 : decode cX8_in 5 = .ok (.iload_n 0, 1) := by decide +kernel
theorem dX8_in_6 : decode cX8_in 6 = .ok (.iload_n 2, 1) := by decide +kernel
theorem dX8_in_7 : decode cX8_in 7 = .ok (.if_icmp .gt 7, 3) := by decide +kernel
theorem dX8_in_10 : decode cX8_in 10 = .ok (.iconst 1, 1) := by decide +kernel
theorem dX8_in_11 : decode cX8_in 11 = .ok (.goto 4, 3) := by decide +kernel
theorem dX8_in_14 : decode cX8_in 14 = .ok (.iconst 0, 1) := by decide +kernel
theorem dX8_in_15 : decode cX8_in 15 = .ok (.ireturn, 1) := by decide +kernel
theorem dX8_has_0 : decode cX8_has 0 = .ok (.iload_n 0, 1) := by decide +kernel
theorem dX8_has_1 : decode cX8_has 1 = .ok (.iload_n 1, 1) := by decide +kernel
theorem dX8_has_2 : decode cX8_has 2 = .ok (.ishr, 1) := by decide +kernel
theorem dX8_has_3 : decode cX8_has 3 = .ok (.iconst 1, 1) := by decide +kernel
theorem dX8_has_4 : decode cX8_has 4 = .ok (.iand, 1) := by decide +kernel
theorem dX8_has_5 : decode cX8_has 5 = .ok (.iconst 1, 1) := by decide +kernel
theorem dX8_has_6 : decode cX8_has 6 = .ok (.if_icmp .ne 7, 3) := by decide +kernel
theorem dX8_has_9 : decode cX8_has 9 = .ok (.iconst 1, 1) := by decide +kernel
theorem dX8_has_10 : decode cX8_has 10 = .ok (.goto 4, 3) := by decide +kernel
theorem dX8_has_13 : decode cX8_has 13 = .ok (.iconst 0, 1) := by decide +kernel
theorem dX8_has_14 : decode cX8_has 14 = .ok (.ireturn, 1) := by decide +kernel
theorem dX8_bits_0 : decode cX8_bits 0 = .ok (.iconst 0, 1) := by decide +kernel
theorem dX8_bits_1 : decode cX8_bits 1 = .ok (.istore_n 1, 1) := by decide +kernel
theorem dX8_bits_2 : decode cX8_bits 2 = .ok (.iload_n 0, 1) := by decide +kernel
theorem dX8_bits_3 : decode cX8_bits 3 = .ok (.istore_n 2, 1) := by decide +kernel
theorem dX8_bits_4 : decode cX8_bits 4 = .ok (.iload_n 2, 1) := by decide +kernel
theorem dX8_bits_5 : decode cX8_bits 5 = .ok (.ifCond .eq 15, 3) := by decide +kernel
theorem dX8_bits_8 : decode cX8_bits 8 = .ok (.iinc 1 1, 3) := by decide +kernel
theorem dX8_bits_11 : decode cX8_bits 11 = .ok (.iload_n 2, 1) := by decide +kernel
theorem dX8_bits_12 : decode cX8_bits 12 = .ok (.iload_n 2, 1) := by decide +kernel
theorem dX8_bits_13 : decode cX8_bits 13 = .ok (.iconst 1, 1) := by decide +kernel
theorem dX8_bits_14 : decode cX8_bits 14 = .ok (.isub, 1) := by decide +kernel
theorem dX8_bits_15 : decode cX8_bits 15 = .ok (.iand, 1) := by decide +kernel
theorem dX8_bits_16 : decode cX8_bits 16 = .ok (.istore_n 2, 1) := by decide +kernel
theorem dX8_bits_17 : decode cX8_bits 17 = .ok (.goto (-13), 3) := by decide +kernel
theorem dX8_bits_20 : decode cX8_bits 20 = .ok (.iload_n 1, 1) := by decide +kernel
theorem dX8_bits_21 : decode cX8_bits 21 = .ok (.ireturn, 1) := by decide +kernel
set_option maxRecDepth 20000 in
theorem ggX8_write_X8_in : GoodIn wsX8_write wsX8_in := goodIn_r _ [6] (by decide +kernel) (by decide +kernel)
set_option maxRecDepth 20000 in
theorem gX8_write_X8_in : GoodIn wsX8_write (va_wsS RX8 57 yX8_in wsX8_in) := goodIn_app (goodIn_of _ (by decide +kernel)) ggX8_write_X8_in
theorem dX8_write_0 : decode cX8_write 0 = .ok (.iload_n 1, 1) := by decide +kernel
theorem dX8_write_1 : decode cX8_write 1 = .ok (.bipush 32, 2) := by decide +kernel
theorem dX8_write_3 : decode cX8_write 3 = .ok (.bipush 126, 2) := by decide +kernel
theorem dX8_write_5 : decode cX8_write 5 = .ok (.invokestatic 57, 3) := by decide +kernel
theorem dX8_write_8 : decode cX8_write 8 = .ok (.ifCond .ne 5, 3) := by decide +kernel
theorem dX8_write_11 : decode cX8_write 11 = .ok (.iconst (-1), 1) := by decide +kernel
theorem dX8_write_12 : decode cX8_write 12 = .ok (.ireturn, 1) := by decide +kernel
theorem dX8_write_13 : decode cX8_write 13 = .ok (.aload_n 0, 1) := by decide +kernel
theorem dX8_write_14 : decode cX8_write 14 = .ok (.getfield 61, 3) := by decide +kernel
theorem dX8_write_17 : decode cX8_write 17 = .ok (.sipush 200, 3) := by decide +kernel
theorem dX8_write_20 : decode cX8_write 20 = .ok (.if_icmp .ne 6, 3) := by decide +kernel
theorem dX8_write_23 : decode cX8_write 23 = .ok (.bipush (-3), 2) := by decide +kernel
theorem dX8_write_25 : decode cX8_write 25 = .ok (.ireturn, 1) := by decide +kernel
theorem dX8_write_26 : decode cX8_write 26 = .ok (.aload_n 0, 1) := by decide +kernel
theorem dX8_write_27 : decode cX8_write 27 = .ok (.getfield 7, 3) := by decide +kernel
theorem dX8_write_30 : decode cX8_write 30 = .ok (.aload_n 0, 1) := by decide +kernel
theorem dX8_write_31 : decode cX8_write 31 = .ok (.getfield 61, 3) := by decide +kernel
theorem dX8_write_34 : decode cX8_write 34 = .ok (.iload_n 1, 1) := by decide +kernel
theorem dX8_write_35 : decode cX8_write 35 = .ok (.iastore, 1) := by decide +kernel
theorem dX8_write_36 : decode cX8_write 36 = .ok (.aload_n 0, 1) := by decide +kernel
theorem dX8_write_37 : decode cX8_write 37 = .ok (.dup, 1) := by decide +kernel
theorem dX8_write_38 : decode cX8_write 38 = .ok (.getfield 61, 3) := by decide +kernel
theorem dX8_write_41 : decode cX8_write 41 = .ok (.iconst 1, 1) := by decide +kernel
theorem dX8_write_42 : decode cX8_write 42 = .ok (.iadd, 1) := by decide +kernel
theorem dX8_write_43 : decode cX8_write 43 = .ok (.putfield 61, 3) := by decide +kernel
theorem dX8_write_46 : decode cX8_write 46 = .ok (.aload_n 0, 1) := by decide +kernel
theorem dX8_write_47 : decode cX8_write 47 = .ok (.getfield 61, 3) := by decide +kernel
theorem dX8_write_50 : decode cX8_write 50 = .ok (.ireturn, 1) := by decide +kernel
theorem dX8_wipe_0 : decode cX8_wipe 0 = .ok (.aload_n 0, 1) := by decide +kernel
theorem dX8_wipe_1 : decode cX8_wipe 1 = .ok (.getfield 61, 3) := by decide +kernel
theorem dX8_wipe_4 : decode cX8_wipe 4 = .ok (.istore_n 1, 1) := by decide +kernel
theorem dX8_wipe_5 : decode cX8_wipe 5 = .ok (.aload_n 0, 1) := by decide +kernel
theorem dX8_wipe_6 : decode cX8_wipe 6 = .ok (.iconst 0, 1) := by decide +kernel
theorem dX8_wipe_7 : decode cX8_wipe 7 = .ok (.putfield 61, 3) := by decide +kernel
theorem dX8_wipe_10 : decode cX8_wipe 10 = .ok (.iload_n 1, 1) := by decide +kernel
theorem dX8_wipe_11 : decode cX8_wipe 11 = .ok (.ireturn, 1) := by decide +kernel
theorem dX8_letterAt_0 : decode cX8_letterAt 0 = .ok (.iload_n 1, 1) := by decide +kernel
theorem dX8_letterAt_1 : decode cX8_letterAt 1 = .ok (.aload_n 0, 1) := by decide +kernel
theorem dX8_letterAt_2 : decode cX8_letterAt 2 = .ok (.getfield 61, 3) := by decide +kernel
theorem dX8_letterAt_5 : decode cX8_letterAt 5 = .ok (.if_icmp .ge 12, 3) := by decide +kernel
theorem dX8_letterAt_8 : decode cX8_letterAt 8 = .ok (.aload_n 0, 1) := by decide +kernel
theorem dX8_letterAt_9 : decode cX8_letterAt 9 = .ok (.getfield 7, 3) := by decide +kernel
theorem dX8_letterAt_12 : decode cX8_letterAt 12 = .ok (.iload_n 1, 1) := by decide +kernel
theorem dX8_letterAt_13 : decode cX8_letterAt 13 = .ok (.iaload, 1) := by decide +kernel
theorem dX8_letterAt_14 : decode cX8_letterAt 14 = .ok (.goto 4, 3) := by decide +kernel
theorem dX8_letterAt_17 : decode cX8_letterAt 17 = .ok (.iconst 0, 1) := by decide +kernel
theorem dX8_letterAt_18 : decode cX8_letterAt 18 = .ok (.ireturn, 1) := by decide +kernel
set_option maxRecDepth 20000 in
theorem ggX8_isFigure_X8_in : GoodIn wsX8_isFigure wsX8_in := goodIn_r _ [4] (by decide +kernel) (by decide +kernel)
set_option maxRecDepth 20000 in
theorem gX8_isFigure_X8_in : GoodIn wsX8_isFigure (va_wsS RX8 57 yX8_in wsX8_in) := goodIn_app (goodIn_of _ (by decide +kernel)) ggX8_isFigure_X8_in
theorem dX8_isFigure_0 : decode cX8_isFigure 0 = .ok (.iload_n 0, 1) := by decide +kernel
theorem dX8_isFigure_1 : decode cX8_isFigure 1 = .ok (.bipush 48, 2) := by decide +kernel
theorem dX8_isFigure_3 : decode cX8_isFigure 3 = .ok (.bipush 57, 2) := by decide +kernel
theorem dX8_isFigure_5 : decode cX8_isFigure 5 = .ok (.invokestatic 57, 3) := by decide +kernel
theorem dX8_isFigure_8 : decode cX8_isFigure 8 = .ok (.ireturn, 1) := by decide +kernel
set_option maxRecDepth 20000 in
theorem ggX8_readsNumbers_X8_letterAt : GoodIn wsX8_readsNumbers wsX8_letterAt := goodIn_r _ [7, 8, 9, 16, 17, 18, 19, 20, 21, 22, 23, 24, 25, 26, 27, 28, 29, 30, 31, 32, 33, 34] (by decide +kernel) (by decide +kernel)
set_option maxRecDepth 20000 in
theorem gX8_readsNumbers_X8_letterAt : GoodIn wsX8_readsNumbers (wsV RX8 68 RX8 yX8_letterAt wsX8_letterAt) := goodIn_app (goodIn_of _ (by decide +kernel)) ggX8_readsNumbers_X8_letterAt
set_option maxRecDepth 20000 in
theorem ggX8_readsNumbers_X8_isFigure : GoodIn wsX8_readsNumbers wsX8_isFigure := goodIn_r _ [12, 13, 14, 6, 15] (by decide +kernel) (by decide +kernel)
set_option maxRecDepth 20000 in
theorem gX8_readsNumbers_X8_isFigure : GoodIn wsX8_readsNumbers (va_wsS RX8 72 yX8_isFigure wsX8_isFigure) := goodIn_app (goodIn_of _ (by decide +kernel)) ggX8_readsNumbers_X8_isFigure
theorem dX8_readsNumbers_0 : decode cX8_readsNumbers 0 = .ok (.iconst 0, 1) := by decide +kernel
theorem dX8_readsNumbers_1 : decode cX8_readsNumbers 1 = .ok (.istore_n 2, 1) := by decide +kernel
theorem dX8_readsNumbers_2 : decode cX8_readsNumbers 2 = .ok (.iload_n 2, 1) := by decide +kernel
theorem dX8_readsNumbers_3 : decode cX8_readsNumbers 3 = .ok (.iload_n 1, 1) := by decide +kernel
theorem dX8_readsNumbers_4 : decode cX8_readsNumbers 4 = .ok (.if_icmp .ge 132, 3) := by decide +kernel
theorem dX8_readsNumbers_7 : decode cX8_readsNumbers 7 = .ok (.aload_n 0, 1) := by decide +kernel
theorem dX8_readsNumbers_8 : decode cX8_readsNumbers 8 = .ok (.aload_n 0, 1) := by decide +kernel
theorem dX8_readsNumbers_9 : decode cX8_readsNumbers 9 = .ok (.getfield 65, 3) := by decide +kernel
theorem dX8_readsNumbers_12 : decode cX8_readsNumbers 12 = .ok (.invokevirtual 68, 3) := by decide +kernel
theorem dX8_readsNumbers_15 : decode cX8_readsNumbers 15 = .ok (.invokestatic 72, 3) := by decide +kernel
theorem dX8_readsNumbers_18 : decode cX8_readsNumbers 18 = .ok (.ifCond .ne 5, 3) := by decide +kernel
theorem dX8_readsNumbers_21 : decode cX8_readsNumbers 21 = .ok (.iconst 0, 1) := by decide +kernel
theorem dX8_readsNumbers_22 : decode cX8_readsNumbers 22 = .ok (.ireturn, 1) := by decide +kernel
theorem dX8_readsNumbers_23 : decode cX8_readsNumbers 23 = .ok (.aload_n 0, 1) := by decide +kernel
theorem dX8_readsNumbers_24 : decode cX8_readsNumbers 24 = .ok (.aload_n 0, 1) := by decide +kernel
theorem dX8_readsNumbers_25 : decode cX8_readsNumbers 25 = .ok (.getfield 65, 3) := by decide +kernel
theorem dX8_readsNumbers_28 : decode cX8_readsNumbers 28 = .ok (.invokevirtual 68, 3) := by decide +kernel
theorem dX8_readsNumbers_31 : decode cX8_readsNumbers 31 = .ok (.bipush 48, 2) := by decide +kernel
theorem dX8_readsNumbers_33 : decode cX8_readsNumbers 33 = .ok (.isub, 1) := by decide +kernel
theorem dX8_readsNumbers_34 : decode cX8_readsNumbers 34 = .ok (.istore_n 3, 1) := by decide +kernel
theorem dX8_readsNumbers_35 : decode cX8_readsNumbers 35 = .ok (.aload_n 0, 1) := by decide +kernel
theorem dX8_readsNumbers_36 : decode cX8_readsNumbers 36 = .ok (.dup, 1) := by decide +kernel
theorem dX8_readsNumbers_37 : decode cX8_readsNumbers 37 = .ok (.getfield 65, 3) := by decide +kernel
theorem dX8_readsNumbers_40 : decode cX8_readsNumbers 40 = .ok (.iconst 1, 1) := by decide +kernel
theorem dX8_readsNumbers_41 : decode cX8_readsNumbers 41 = .ok (.iadd, 1) := by decide +kernel
theorem dX8_readsNumbers_42 : decode cX8_readsNumbers 42 = .ok (.putfield 65, 3) := by decide +kernel
theorem dX8_readsNumbers_45 : decode cX8_readsNumbers 45 = .ok (.aload_n 0, 1) := by decide +kernel
theorem dX8_readsNumbers_46 : decode cX8_readsNumbers 46 = .ok (.aload_n 0, 1) := by decide +kernel
theorem dX8_readsNumbers_47 : decode cX8_readsNumbers 47 = .ok (.getfield 65, 3) := by decide +kernel
theorem dX8_readsNumbers_50 : decode cX8_readsNumbers 50 = .ok (.invokevirtual 68, 3) := by decide +kernel
theorem dX8_readsNumbers_53 : decode cX8_readsNumbers 53 = .ok (.invokestatic 72, 3) := by decide +kernel
theorem dX8_readsNumbers_56 : decode cX8_readsNumbers 56 = .ok (.ifCond .eq 30, 3) := by decide +kernel
theorem dX8_readsNumbers_59 : decode cX8_readsNumbers 59 = .ok (.bipush 10, 2) := by decide +kernel
theorem dX8_readsNumbers_61 : decode cX8_readsNumbers 61 = .ok (.iload_n 3, 1) := by decide +kernel
theorem dX8_readsNumbers_62 : decode cX8_readsNumbers 62 = .ok (.imul, 1) := by decide +kernel
theorem dX8_readsNumbers_63 : decode cX8_readsNumbers 63 = .ok (.aload_n 0, 1) := by decide +kernel
theorem dX8_readsNumbers_64 : decode cX8_readsNumbers 64 = .ok (.aload_n 0, 1) := by decide +kernel
theorem dX8_readsNumbers_65 : decode cX8_readsNumbers 65 = .ok (.getfield 65, 3) := by decide +kernel
theorem dX8_readsNumbers_68 : decode cX8_readsNumbers 68 = .ok (.invokevirtual 68, 3) := by decide +kernel
theorem dX8_readsNumbers_71 : decode cX8_readsNumbers 71 = .ok (.iadd, 1) := by decide +kernel
theorem dX8_readsNumbers_72 : decode cX8_readsNumbers 72 = .ok (.bipush 48, 2) := by decide +kernel
theorem dX8_readsNumbers_74 : decode cX8_readsNumbers 74 = .ok (.isub, 1) := by decide +kernel
theorem dX8_readsNumbers_75 : decode cX8_readsNumbers 75 = .ok (.istore_n 3, 1) := by decide +kernel
theorem dX8_readsNumbers_76 : decode cX8_readsNumbers 76 = .ok (.aload_n 0, 1) := by decide +kernel
theorem dX8_readsNumbers_77 : decode cX8_readsNumbers 77 = .ok (.dup, 1) := by decide +kernel
theorem dX8_readsNumbers_78 : decode cX8_readsNumbers 78 = .ok (.getfield 65, 3) := by decide +kernel
theorem dX8_readsNumbers_81 : decode cX8_readsNumbers 81 = .ok (.iconst 1, 1) := by decide +kernel
theorem dX8_readsNumbers_82 : decode cX8_readsNumbers 82 = .ok (.iadd, 1) := by decide +kernel
theorem dX8_readsNumbers_83 : decode cX8_readsNumbers 83 = .ok (.putfield 65, 3) := by decide +kernel
theorem dX8_readsNumbers_86 : decode cX8_readsNumbers 86 = .ok (.aload_n 0, 1) := by decide +kernel
theorem dX8_readsNumbers_87 : decode cX8_readsNumbers 87 = .ok (.getfield 13, 3) := by decide +kernel
theorem dX8_readsNumbers_90 : decode cX8_readsNumbers 90 = .ok (.iload_n 2, 1) := by decide +kernel
theorem dX8_readsNumbers_91 : decode cX8_readsNumbers 91 = .ok (.iload_n 3, 1) := by decide +kernel
theorem dX8_readsNumbers_92 : decode cX8_readsNumbers 92 = .ok (.iastore, 1) := by decide +kernel
theorem dX8_readsNumbers_93 : decode cX8_readsNumbers 93 = .ok (.aload_n 0, 1) := by decide +kernel
theorem dX8_readsNumbers_94 : decode cX8_readsNumbers 94 = .ok (.aload_n 0, 1) := by decide +kernel
theorem dX8_readsNumbers_95 : decode cX8_readsNumbers 95 = .ok (.getfield 65, 3) := by decide +kernel
theorem dX8_readsNumbers_98 : decode cX8_readsNumbers 98 = .ok (.invokevirtual 68, 3) := by decide +kernel
theorem dX8_readsNumbers_101 : decode cX8_readsNumbers 101 = .ok (.iload_n 2, 1) := by decide +kernel
theorem dX8_readsNumbers_102 : decode cX8_readsNumbers 102 = .ok (.iload_n 1, 1) := by decide +kernel
theorem dX8_readsNumbers_103 : decode cX8_readsNumbers 103 = .ok (.iconst 1, 1) := by decide +kernel
theorem dX8_readsNumbers_104 : decode cX8_readsNumbers 104 = .ok (.isub, 1) := by decide +kernel
theorem dX8_readsNumbers_105 : decode cX8_readsNumbers 105 = .ok (.if_icmp .ne 8, 3) := by decide +kernel
theorem dX8_readsNumbers_108 : decode cX8_readsNumbers 108 = .ok (.bipush 59, 2) := by decide +kernel
theorem dX8_readsNumbers_110 : decode cX8_readsNumbers 110 = .ok (.goto 5, 3) := by decide +kernel
theorem dX8_readsNumbers_113 : decode cX8_readsNumbers 113 = .ok (.bipush 44, 2) := by decide +kernel
theorem dX8_readsNumbers_115 : decode cX8_readsNumbers 115 = .ok (.if_icmp .eq 5, 3) := by decide +kernel
theorem dX8_readsNumbers_118 : decode cX8_readsNumbers 118 = .ok (.iconst 0, 1) := by decide +kernel
theorem dX8_readsNumbers_119 : decode cX8_readsNumbers 119 = .ok (.ireturn, 1) := by decide +kernel
theorem dX8_readsNumbers_120 : decode cX8_readsNumbers 120 = .ok (.aload_n 0, 1) := by decide +kernel
theorem dX8_readsNumbers_121 : decode cX8_readsNumbers 121 = .ok (.dup, 1) := by decide +kernel
theorem dX8_readsNumbers_122 : decode cX8_readsNumbers 122 = .ok (.getfield 65, 3) := by decide +kernel
theorem dX8_readsNumbers_125 : decode cX8_readsNumbers 125 = .ok (.iconst 1, 1) := by decide +kernel
theorem dX8_readsNumbers_126 : decode cX8_readsNumbers 126 = .ok (.iadd, 1) := by decide +kernel
theorem dX8_readsNumbers_127 : decode cX8_readsNumbers 127 = .ok (.putfield 65, 3) := by decide +kernel
theorem dX8_readsNumbers_130 : decode cX8_readsNumbers 130 = .ok (.iinc 2 1, 3) := by decide +kernel
theorem dX8_readsNumbers_133 : decode cX8_readsNumbers 133 = .ok (.goto (-131), 3) := by decide +kernel
theorem dX8_readsNumbers_136 : decode cX8_readsNumbers 136 = .ok (.iconst 1, 1) := by decide +kernel
theorem dX8_readsNumbers_137 : decode cX8_readsNumbers 137 = .ok (.ireturn, 1) := by decide +kernel
set_option maxRecDepth 20000 in
theorem ggX8_readsSquares_X8_readsNumbers : GoodIn wsX8_readsSquares wsX8_readsNumbers := goodIn_r _ [7, 8, 1, 9, 10, 11, 6, 12, 13, 14, 15, 16, 17, 18, 19, 20, 21, 22, 23, 24, 25, 26, 27, 28, 29, 30, 31, 32, 33, 34, 35, 36, 37, 38, 39] (by decide +kernel) (by decide +kernel)
set_option maxRecDepth 20000 in
theorem gX8_readsSquares_X8_readsNumbers : GoodIn wsX8_readsSquares (wsV RX8 76 RX8 yX8_readsNumbers wsX8_readsNumbers) := goodIn_app (goodIn_of _ (by decide +kernel)) ggX8_readsSquares_X8_readsNumbers
set_option maxRecDepth 20000 in
theorem ggX8_readsSquares_X8_in : GoodIn wsX8_readsSquares wsX8_in := goodIn_r _ [20] (by decide +kernel) (by decide +kernel)
set_option maxRecDepth 20000 in
theorem gX8_readsSquares_X8_in : GoodIn wsX8_readsSquares (va_wsS RX8 57 yX8_in wsX8_in) := goodIn_app (goodIn_of _ (by decide +kernel)) ggX8_readsSquares_X8_in
theorem dX8_readsSquares_0 : decode cX8_readsSquares 0 = .ok (.aload_n 0, 1) := by decide +kernel
theorem dX8_readsSquares_1 : decode cX8_readsSquares 1 = .ok (.iconst 1, 1) := by decide +kernel
theorem dX8_readsSquares_2 : decode cX8_readsSquares 2 = .ok (.invokevirtual 76, 3) := by decide +kernel
theorem dX8_readsSquares_5 : decode cX8_readsSquares 5 = .ok (.ifCond .eq 41, 3) := by decide +kernel
theorem dX8_readsSquares_8 : decode cX8_readsSquares 8 = .ok (.aload_n 0, 1) := by decide +kernel
theorem dX8_readsSquares_9 : decode cX8_readsSquares 9 = .ok (.getfield 13, 3) := by decide +kernel
theorem dX8_readsSquares_12 : decode cX8_readsSquares 12 = .ok (.iconst 0, 1) := by decide +kernel
theorem dX8_readsSquares_13 : decode cX8_readsSquares 13 = .ok (.iaload, 1) := by decide +kernel
theorem dX8_readsSquares_14 : decode cX8_readsSquares 14 = .ok (.iconst 1, 1) := by decide +kernel
theorem dX8_readsSquares_15 : decode cX8_readsSquares 15 = .ok (.bipush 9, 2) := by decide +kernel
theorem dX8_readsSquares_17 : decode cX8_readsSquares 17 = .ok (.invokestatic 57, 3) := by decide +kernel
theorem dX8_readsSquares_20 : decode cX8_readsSquares 20 = .ok (.ifCond .eq 26, 3) := by decide +kernel
theorem dX8_readsSquares_23 : decode cX8_readsSquares 23 = .ok (.aload_n 0, 1) := by decide +kernel
theorem dX8_readsSquares_24 : decode cX8_readsSquares 24 = .ok (.getfield 16, 3) := by decide +kernel
theorem dX8_readsSquares_27 : decode cX8_readsSquares 27 = .ok (.iconst 1, 1) := by decide +kernel
theorem dX8_readsSquares_28 : decode cX8_readsSquares 28 = .ok (.iaload, 1) := by decide +kernel
theorem dX8_readsSquares_29 : decode cX8_readsSquares 29 = .ok (.aload_n 0, 1) := by decide +kernel
theorem dX8_readsSquares_30 : decode cX8_readsSquares 30 = .ok (.getfield 16, 3) := by decide +kernel
theorem dX8_readsSquares_33 : decode cX8_readsSquares 33 = .ok (.iconst 2, 1) := by decide +kernel
theorem dX8_readsSquares_34 : decode cX8_readsSquares 34 = .ok (.iaload, 1) := by decide +kernel
theorem dX8_readsSquares_35 : decode cX8_readsSquares 35 = .ok (.iadd, 1) := by decide +kernel
theorem dX8_readsSquares_36 : decode cX8_readsSquares 36 = .ok (.aload_n 0, 1) := by decide +kernel
theorem dX8_readsSquares_37 : decode cX8_readsSquares 37 = .ok (.getfield 16, 3) := by decide +kernel
theorem dX8_readsSquares_40 : decode cX8_readsSquares 40 = .ok (.iconst 3, 1) := by decide +kernel
theorem dX8_readsSquares_41 : decode cX8_readsSquares 41 = .ok (.iaload, 1) := by decide +kernel
theorem dX8_readsSquares_42 : decode cX8_readsSquares 42 = .ok (.iadd, 1) := by decide +kernel
theorem dX8_readsSquares_43 : decode cX8_readsSquares 43 = .ok (.ifCond .le 5, 3) := by decide +kernel
theorem dX8_readsSquares_46 : decode cX8_readsSquares 46 = .ok (.iconst 0, 1) := by decide +kernel
theorem dX8_readsSquares_47 : decode cX8_readsSquares 47 = .ok (.ireturn, 1) := by decide +kernel
theorem dX8_readsSquares_48 : decode cX8_readsSquares 48 = .ok (.aload_n 0, 1) := by decide +kernel
theorem dX8_readsSquares_49 : decode cX8_readsSquares 49 = .ok (.getfield 16, 3) := by decide +kernel
theorem dX8_readsSquares_52 : decode cX8_readsSquares 52 = .ok (.iconst 0, 1) := by decide +kernel
theorem dX8_readsSquares_53 : decode cX8_readsSquares 53 = .ok (.aload_n 0, 1) := by decide +kernel
theorem dX8_readsSquares_54 : decode cX8_readsSquares 54 = .ok (.getfield 13, 3) := by decide +kernel
theorem dX8_readsSquares_57 : decode cX8_readsSquares 57 = .ok (.iconst 0, 1) := by decide +kernel
theorem dX8_readsSquares_58 : decode cX8_readsSquares 58 = .ok (.iaload, 1) := by decide +kernel
theorem dX8_readsSquares_59 : decode cX8_readsSquares 59 = .ok (.iastore, 1) := by decide +kernel
theorem dX8_readsSquares_60 : decode cX8_readsSquares 60 = .ok (.iconst 1, 1) := by decide +kernel
theorem dX8_readsSquares_61 : decode cX8_readsSquares 61 = .ok (.ireturn, 1) := by decide +kernel
set_option maxRecDepth 20000 in
theorem ggX8_readsParasol_X8_readsNumbers : GoodIn wsX8_readsParasol wsX8_readsNumbers := goodIn_r _ [8, 9, 2, 10, 11, 12, 7, 13, 14, 15, 16, 17, 18, 19, 20, 21, 22, 23, 24, 25, 26, 27, 28, 29, 30, 31, 32, 33, 34, 35, 36, 37, 38, 39, 40] (by decide +kernel) (by decide +kernel)
set_option maxRecDepth 20000 in
theorem gX8_readsParasol_X8_readsNumbers : GoodIn wsX8_readsParasol (wsV RX8 76 RX8 yX8_readsNumbers wsX8_readsNumbers) := goodIn_app (goodIn_of _ (by decide +kernel)) ggX8_readsParasol_X8_readsNumbers
set_option maxRecDepth 20000 in
theorem ggX8_readsParasol_X8_in : GoodIn wsX8_readsParasol wsX8_in := goodIn_r _ [21] (by decide +kernel) (by decide +kernel)
set_option maxRecDepth 20000 in
theorem gX8_readsParasol_X8_in : GoodIn wsX8_readsParasol (va_wsS RX8 57 yX8_in wsX8_in) := goodIn_app (goodIn_of _ (by decide +kernel)) ggX8_readsParasol_X8_in
theorem dX8_readsParasol_0 : decode cX8_readsParasol 0 = .ok (.aload_n 0, 1) := by decide +kernel
theorem dX8_readsParasol_1 : decode cX8_readsParasol 1 = .ok (.getfield 16, 3) := by decide +kernel
theorem dX8_readsParasol_4 : decode cX8_readsParasol 4 = .ok (.iconst 1, 1) := by decide +kernel
theorem dX8_readsParasol_5 : decode cX8_readsParasol 5 = .ok (.iaload, 1) := by decide +kernel
theorem dX8_readsParasol_6 : decode cX8_readsParasol 6 = .ok (.istore_n 1, 1) := by decide +kernel
theorem dX8_readsParasol_7 : decode cX8_readsParasol 7 = .ok (.iload_n 1, 1) := by decide +kernel
theorem dX8_readsParasol_8 : decode cX8_readsParasol 8 = .ok (.bipush 6, 2) := by decide +kernel
theorem dX8_readsParasol_10 : decode cX8_readsParasol 10 = .ok (.if_icmp .eq 55, 3) := by decide +kernel
theorem dX8_readsParasol_13 : decode cX8_readsParasol 13 = .ok (.aload_n 0, 1) := by decide +kernel
theorem dX8_readsParasol_14 : decode cX8_readsParasol 14 = .ok (.iconst 3, 1) := by decide +kernel
theorem dX8_readsParasol_15 : decode cX8_readsParasol 15 = .ok (.invokevirtual 76, 3) := by decide +kernel
theorem dX8_readsParasol_18 : decode cX8_readsParasol 18 = .ok (.ifCond .eq 47, 3) := by decide +kernel
theorem dX8_readsParasol_21 : decode cX8_readsParasol 21 = .ok (.aload_n 0, 1) := by decide +kernel
theorem dX8_readsParasol_22 : decode cX8_readsParasol 22 = .ok (.getfield 13, 3) := by decide +kernel
theorem dX8_readsParasol_25 : decode cX8_readsParasol 25 = .ok (.iconst 0, 1) := by decide +kernel
theorem dX8_readsParasol_26 : decode cX8_readsParasol 26 = .ok (.iaload, 1) := by decide +kernel
theorem dX8_readsParasol_27 : decode cX8_readsParasol 27 = .ok (.iconst 0, 1) := by decide +kernel
theorem dX8_readsParasol_28 : decode cX8_readsParasol 28 = .ok (.iconst 3, 1) := by decide +kernel
theorem dX8_readsParasol_29 : decode cX8_readsParasol 29 = .ok (.invokestatic 57, 3) := by decide +kernel
theorem dX8_readsParasol_32 : decode cX8_readsParasol 32 = .ok (.ifCond .eq 33, 3) := by decide +kernel
theorem dX8_readsParasol_35 : decode cX8_readsParasol 35 = .ok (.aload_n 0, 1) := by decide +kernel
theorem dX8_readsParasol_36 : decode cX8_readsParasol 36 = .ok (.getfield 13, 3) := by decide +kernel
theorem dX8_readsParasol_39 : decode cX8_readsParasol 39 = .ok (.iconst 1, 1) := by decide +kernel
theorem dX8_readsParasol_40 : decode cX8_readsParasol 40 = .ok (.iaload, 1) := by decide +kernel
theorem dX8_readsParasol_41 : decode cX8_readsParasol 41 = .ok (.iconst 0, 1) := by decide +kernel
theorem dX8_readsParasol_42 : decode cX8_readsParasol 42 = .ok (.bipush 23, 2) := by decide +kernel
theorem dX8_readsParasol_44 : decode cX8_readsParasol 44 = .ok (.invokestatic 57, 3) := by decide +kernel
theorem dX8_readsParasol_47 : decode cX8_readsParasol 47 = .ok (.ifCond .eq 18, 3) := by decide +kernel
theorem dX8_readsParasol_50 : decode cX8_readsParasol 50 = .ok (.aload_n 0, 1) := by decide +kernel
theorem dX8_readsParasol_51 : decode cX8_readsParasol 51 = .ok (.getfield 13, 3) := by decide +kernel
theorem dX8_readsParasol_54 : decode cX8_readsParasol 54 = .ok (.iconst 2, 1) := by decide +kernel
theorem dX8_readsParasol_55 : decode cX8_readsParasol 55 = .ok (.iaload, 1) := by decide +kernel
theorem dX8_readsParasol_56 : decode cX8_readsParasol 56 = .ok (.iconst 0, 1) := by decide +kernel
theorem dX8_readsParasol_57 : decode cX8_readsParasol 57 = .ok (.bipush 12, 2) := by decide +kernel
theorem dX8_readsParasol_59 : decode cX8_readsParasol 59 = .ok (.invokestatic 57, 3) := by decide +kernel
theorem dX8_readsParasol_62 : decode cX8_readsParasol 62 = .ok (.ifCond .ne 5, 3) := by decide +kernel
theorem dX8_readsParasol_65 : decode cX8_readsParasol 65 = .ok (.iconst 0, 1) := by decide +kernel
theorem dX8_readsParasol_66 : decode cX8_readsParasol 66 = .ok (.ireturn, 1) := by decide +kernel
theorem dX8_readsParasol_67 : decode cX8_readsParasol 67 = .ok (.aload_n 0, 1) := by decide +kernel
theorem dX8_readsParasol_68 : decode cX8_readsParasol 68 = .ok (.getfield 16, 3) := by decide +kernel
theorem dX8_readsParasol_71 : decode cX8_readsParasol 71 = .ok (.iconst 4, 1) := by decide +kernel
theorem dX8_readsParasol_72 : decode cX8_readsParasol 72 = .ok (.iload_n 1, 1) := by decide +kernel
theorem dX8_readsParasol_73 : decode cX8_readsParasol 73 = .ok (.iadd, 1) := by decide +kernel
theorem dX8_readsParasol_74 : decode cX8_readsParasol 74 = .ok (.aload_n 0, 1) := by decide +kernel
theorem dX8_readsParasol_75 : decode cX8_readsParasol 75 = .ok (.getfield 13, 3) := by decide +kernel
theorem dX8_readsParasol_78 : decode cX8_readsParasol 78 = .ok (.iconst 0, 1) := by decide +kernel
theorem dX8_readsParasol_79 : decode cX8_readsParasol 79 = .ok (.iaload, 1) := by decide +kernel
theorem dX8_readsParasol_80 : decode cX8_readsParasol 80 = .ok (.iastore, 1) := by decide +kernel
theorem dX8_readsParasol_81 : decode cX8_readsParasol 81 = .ok (.aload_n 0, 1) := by decide +kernel
theorem dX8_readsParasol_82 : decode cX8_readsParasol 82 = .ok (.getfield 19, 3) := by decide +kernel
theorem dX8_readsParasol_85 : decode cX8_readsParasol 85 = .ok (.iconst 4, 1) := by decide +kernel
theorem dX8_readsParasol_86 : decode cX8_readsParasol 86 = .ok (.iload_n 1, 1) := by decide +kernel
theorem dX8_readsParasol_87 : decode cX8_readsParasol 87 = .ok (.iadd, 1) := by decide +kernel
theorem dX8_readsParasol_88 : decode cX8_readsParasol 88 = .ok (.aload_n 0, 1) := by decide +kernel
theorem dX8_readsParasol_89 : decode cX8_readsParasol 89 = .ok (.getfield 13, 3) := by decide +kernel
theorem dX8_readsParasol_92 : decode cX8_readsParasol 92 = .ok (.iconst 1, 1) := by decide +kernel
theorem dX8_readsParasol_93 : decode cX8_readsParasol 93 = .ok (.iaload, 1) := by decide +kernel
theorem dX8_readsParasol_94 : decode cX8_readsParasol 94 = .ok (.iastore, 1) := by decide +kernel
theorem dX8_readsParasol_95 : decode cX8_readsParasol 95 = .ok (.aload_n 0, 1) := by decide +kernel
theorem dX8_readsParasol_96 : decode cX8_readsParasol 96 = .ok (.getfield 19, 3) := by decide +kernel
theorem dX8_readsParasol_99 : decode cX8_readsParasol 99 = .ok (.bipush 10, 2) := by decide +kernel
theorem dX8_readsParasol_101 : decode cX8_readsParasol 101 = .ok (.iload_n 1, 1) := by decide +kernel
theorem dX8_readsParasol_102 : decode cX8_readsParasol 102 = .ok (.iadd, 1) := by decide +kernel
theorem dX8_readsParasol_103 : decode cX8_readsParasol 103 = .ok (.aload_n 0, 1) := by decide +kernel
theorem dX8_readsParasol_104 : decode cX8_readsParasol 104 = .ok (.getfield 13, 3) := by decide +kernel
theorem dX8_readsParasol_107 : decode cX8_readsParasol 107 = .ok (.iconst 2, 1) := by decide +kernel
theorem dX8_readsParasol_108 : decode cX8_readsParasol 108 = .ok (.iaload, 1) := by decide +kernel
theorem dX8_readsParasol_109 : decode cX8_readsParasol 109 = .ok (.iastore, 1) := by decide +kernel
theorem dX8_readsParasol_110 : decode cX8_readsParasol 110 = .ok (.aload_n 0, 1) := by decide +kernel
theorem dX8_readsParasol_111 : decode cX8_readsParasol 111 = .ok (.getfield 16, 3) := by decide +kernel
theorem dX8_readsParasol_114 : decode cX8_readsParasol 114 = .ok (.iconst 1, 1) := by decide +kernel
theorem dX8_readsParasol_115 : decode cX8_readsParasol 115 = .ok (.dup2, 1) := by decide +kernel
theorem dX8_readsParasol_116 : decode cX8_readsParasol 116 = .ok (.iaload, 1) := by decide +kernel
theorem dX8_readsParasol_117 : decode cX8_readsParasol 117 = .ok (.iconst 1, 1) := by decide +kernel
theorem dX8_readsParasol_118 : decode cX8_readsParasol 118 = .ok (.iadd, 1) := by decide +kernel
theorem dX8_readsParasol_119 : decode cX8_readsParasol 119 = .ok (.iastore, 1) := by decide +kernel
theorem dX8_readsParasol_120 : decode cX8_readsParasol 120 = .ok (.iconst 1, 1) := by decide +kernel
theorem dX8_readsParasol_121 : decode cX8_readsParasol 121 = .ok (.ireturn, 1) := by decide +kernel
set_option maxRecDepth 20000 in
theorem ggX8_readsPerson_X8_readsNumbers : GoodIn wsX8_readsPerson wsX8_readsNumbers := goodIn_r _ [8, 9, 2, 10, 11, 12, 7, 13, 14, 15, 16, 17, 18, 19, 20, 21, 22, 23, 24, 25, 26, 27, 28, 29, 30, 31, 32, 33, 34, 35, 36, 37, 38, 39, 40] (by decide +kernel) (by decide +kernel)
set_option maxRecDepth 20000 in
theorem gX8_readsPerson_X8_readsNumbers : GoodIn wsX8_readsPerson (wsV RX8 76 RX8 yX8_readsNumbers wsX8_readsNumbers) := goodIn_app (goodIn_of _ (by decide +kernel)) ggX8_readsPerson_X8_readsNumbers
set_option maxRecDepth 20000 in
theorem ggX8_readsPerson_X8_in : GoodIn wsX8_readsPerson wsX8_in := goodIn_r _ [21] (by decide +kernel) (by decide +kernel)
set_option maxRecDepth 20000 in
theorem gX8_readsPerson_X8_in : GoodIn wsX8_readsPerson (va_wsS RX8 57 yX8_in wsX8_in) := goodIn_app (goodIn_of _ (by decide +kernel)) ggX8_readsPerson_X8_in
theorem dX8_readsPerson_0 : decode cX8_readsPerson 0 = .ok (.aload_n 0, 1) := by decide +kernel
theorem dX8_readsPerson_1 : decode cX8_readsPerson 1 = .ok (.getfield 16, 3) := by decide +kernel
theorem dX8_readsPerson_4 : decode cX8_readsPerson 4 = .ok (.iconst 2, 1) := by decide +kernel
theorem dX8_readsPerson_5 : decode cX8_readsPerson 5 = .ok (.iaload, 1) := by decide +kernel
theorem dX8_readsPerson_6 : decode cX8_readsPerson 6 = .ok (.istore_n 1, 1) := by decide +kernel
theorem dX8_readsPerson_7 : decode cX8_readsPerson 7 = .ok (.iload_n 1, 1) := by decide +kernel
theorem dX8_readsPerson_8 : decode cX8_readsPerson 8 = .ok (.iconst 5, 1) := by decide +kernel
theorem dX8_readsPerson_9 : decode cX8_readsPerson 9 = .ok (.if_icmp .eq 32, 3) := by decide +kernel
theorem dX8_readsPerson_12 : decode cX8_readsPerson 12 = .ok (.aload_n 0, 1) := by decide +kernel
theorem dX8_readsPerson_13 : decode cX8_readsPerson 13 = .ok (.iconst 1, 1) := by decide +kernel
theorem dX8_readsPerson_14 : decode cX8_readsPerson 14 = .ok (.invokevirtual 76, 3) := by decide +kernel
theorem dX8_readsPerson_17 : decode cX8_readsPerson 17 = .ok (.ifCond .eq 24, 3) := by decide +kernel
theorem dX8_readsPerson_20 : decode cX8_readsPerson 20 = .ok (.aload_n 0, 1) := by decide +kernel
theorem dX8_readsPerson_21 : decode cX8_readsPerson 21 = .ok (.getfield 13, 3) := by decide +kernel
theorem dX8_readsPerson_24 : decode cX8_readsPerson 24 = .ok (.iconst 0, 1) := by decide +kernel
theorem dX8_readsPerson_25 : decode cX8_readsPerson 25 = .ok (.iaload, 1) := by decide +kernel
theorem dX8_readsPerson_26 : decode cX8_readsPerson 26 = .ok (.iconst 0, 1) := by decide +kernel
theorem dX8_readsPerson_27 : decode cX8_readsPerson 27 = .ok (.aload_n 0, 1) := by decide +kernel
theorem dX8_readsPerson_28 : decode cX8_readsPerson 28 = .ok (.getfield 16, 3) := by decide +kernel
theorem dX8_readsPerson_31 : decode cX8_readsPerson 31 = .ok (.iconst 0, 1) := by decide +kernel
theorem dX8_readsPerson_32 : decode cX8_readsPerson 32 = .ok (.iaload, 1) := by decide +kernel
theorem dX8_readsPerson_33 : decode cX8_readsPerson 33 = .ok (.iconst 1, 1) := by decide +kernel
theorem dX8_readsPerson_34 : decode cX8_readsPerson 34 = .ok (.isub, 1) := by decide +kernel
theorem dX8_readsPerson_35 : decode cX8_readsPerson 35 = .ok (.invokestatic 57, 3) := by decide +kernel
theorem dX8_readsPerson_38 : decode cX8_readsPerson 38 = .ok (.ifCond .ne 5, 3) := by decide +kernel
theorem dX8_readsPerson_41 : decode cX8_readsPerson 41 = .ok (.iconst 0, 1) := by decide +kernel
theorem dX8_readsPerson_42 : decode cX8_readsPerson 42 = .ok (.ireturn, 1) := by decide +kernel
theorem dX8_readsPerson_43 : decode cX8_readsPerson 43 = .ok (.aload_n 0, 1) := by decide +kernel
theorem dX8_readsPerson_44 : decode cX8_readsPerson 44 = .ok (.getfield 19, 3) := by decide +kernel
theorem dX8_readsPerson_47 : decode cX8_readsPerson 47 = .ok (.bipush 16, 2) := by decide +kernel
theorem dX8_readsPerson_49 : decode cX8_readsPerson 49 = .ok (.iload_n 1, 1) := by decide +kernel
theorem dX8_readsPerson_50 : decode cX8_readsPerson 50 = .ok (.iadd, 1) := by decide +kernel
theorem dX8_readsPerson_51 : decode cX8_readsPerson 51 = .ok (.aload_n 0, 1) := by decide +kernel
theorem dX8_readsPerson_52 : decode cX8_readsPerson 52 = .ok (.getfield 13, 3) := by decide +kernel
theorem dX8_readsPerson_55 : decode cX8_readsPerson 55 = .ok (.iconst 0, 1) := by decide +kernel
theorem dX8_readsPerson_56 : decode cX8_readsPerson 56 = .ok (.iaload, 1) := by decide +kernel
theorem dX8_readsPerson_57 : decode cX8_readsPerson 57 = .ok (.iastore, 1) := by decide +kernel
theorem dX8_readsPerson_58 : decode cX8_readsPerson 58 = .ok (.aload_n 0, 1) := by decide +kernel
theorem dX8_readsPerson_59 : decode cX8_readsPerson 59 = .ok (.getfield 16, 3) := by decide +kernel
theorem dX8_readsPerson_62 : decode cX8_readsPerson 62 = .ok (.iconst 2, 1) := by decide +kernel
theorem dX8_readsPerson_63 : decode cX8_readsPerson 63 = .ok (.dup2, 1) := by decide +kernel
theorem dX8_readsPerson_64 : decode cX8_readsPerson 64 = .ok (.iaload, 1) := by decide +kernel
theorem dX8_readsPerson_65 : decode cX8_readsPerson 65 = .ok (.iconst 1, 1) := by decide +kernel
theorem dX8_readsPerson_66 : decode cX8_readsPerson 66 = .ok (.iadd, 1) := by decide +kernel
theorem dX8_readsPerson_67 : decode cX8_readsPerson 67 = .ok (.iastore, 1) := by decide +kernel
theorem dX8_readsPerson_68 : decode cX8_readsPerson 68 = .ok (.iconst 1, 1) := by decide +kernel
theorem dX8_readsPerson_69 : decode cX8_readsPerson 69 = .ok (.ireturn, 1) := by decide +kernel
set_option maxRecDepth 20000 in
theorem ggX8_readsWork_X8_readsNumbers : GoodIn wsX8_readsWork wsX8_readsNumbers := goodIn_r _ [7, 8, 2, 9, 10, 11, 6, 12, 13, 14, 15, 16, 17, 18, 19, 20, 21, 22, 23, 24, 25, 26, 27, 28, 29, 30, 31, 32, 33, 34, 35, 36, 37, 38, 39] (by decide +kernel) (by decide +kernel)
set_option maxRecDepth 20000 in
theorem gX8_readsWork_X8_readsNumbers : GoodIn wsX8_readsWork (wsV RX8 76 RX8 yX8_readsNumbers wsX8_readsNumbers) := goodIn_app (goodIn_of _ (by decide +kernel)) ggX8_readsWork_X8_readsNumbers
set_option maxRecDepth 20000 in
theorem ggX8_readsWork_X8_in : GoodIn wsX8_readsWork wsX8_in := goodIn_r _ [20] (by decide +kernel) (by decide +kernel)
set_option maxRecDepth 20000 in
theorem gX8_readsWork_X8_in : GoodIn wsX8_readsWork (va_wsS RX8 57 yX8_in wsX8_in) := goodIn_app (goodIn_of _ (by decide +kernel)) ggX8_readsWork_X8_in
theorem dX8_readsWork_0 : decode cX8_readsWork 0 = .ok (.aload_n 0, 1) := by decide +kernel
theorem dX8_readsWork_1 : decode cX8_readsWork 1 = .ok (.getfield 16, 3) := by decide +kernel
theorem dX8_readsWork_4 : decode cX8_readsWork 4 = .ok (.iconst 3, 1) := by decide +kernel
theorem dX8_readsWork_5 : decode cX8_readsWork 5 = .ok (.iaload, 1) := by decide +kernel
theorem dX8_readsWork_6 : decode cX8_readsWork 6 = .ok (.istore_n 1, 1) := by decide +kernel
theorem dX8_readsWork_7 : decode cX8_readsWork 7 = .ok (.iload_n 1, 1) := by decide +kernel
theorem dX8_readsWork_8 : decode cX8_readsWork 8 = .ok (.bipush 6, 2) := by decide +kernel
theorem dX8_readsWork_10 : decode cX8_readsWork 10 = .ok (.if_icmp .eq 47, 3) := by decide +kernel
theorem dX8_readsWork_13 : decode cX8_readsWork 13 = .ok (.aload_n 0, 1) := by decide +kernel
theorem dX8_readsWork_14 : decode cX8_readsWork 14 = .ok (.iconst 2, 1) := by decide +kernel
theorem dX8_readsWork_15 : decode cX8_readsWork 15 = .ok (.invokevirtual 76, 3) := by decide +kernel
theorem dX8_readsWork_18 : decode cX8_readsWork 18 = .ok (.ifCond .eq 39, 3) := by decide +kernel
theorem dX8_readsWork_21 : decode cX8_readsWork 21 = .ok (.aload_n 0, 1) := by decide +kernel
theorem dX8_readsWork_22 : decode cX8_readsWork 22 = .ok (.getfield 13, 3) := by decide +kernel
theorem dX8_readsWork_25 : decode cX8_readsWork 25 = .ok (.iconst 0, 1) := by decide +kernel
theorem dX8_readsWork_26 : decode cX8_readsWork 26 = .ok (.iaload, 1) := by decide +kernel
theorem dX8_readsWork_27 : decode cX8_readsWork 27 = .ok (.iconst 0, 1) := by decide +kernel
theorem dX8_readsWork_28 : decode cX8_readsWork 28 = .ok (.aload_n 0, 1) := by decide +kernel
theorem dX8_readsWork_29 : decode cX8_readsWork 29 = .ok (.getfield 16, 3) := by decide +kernel
theorem dX8_readsWork_32 : decode cX8_readsWork 32 = .ok (.iconst 0, 1) := by decide +kernel
theorem dX8_readsWork_33 : decode cX8_readsWork 33 = .ok (.iaload, 1) := by decide +kernel
theorem dX8_readsWork_34 : decode cX8_readsWork 34 = .ok (.iconst 1, 1) := by decide +kernel
theorem dX8_readsWork_35 : decode cX8_readsWork 35 = .ok (.isub, 1) := by decide +kernel
theorem dX8_readsWork_36 : decode cX8_readsWork 36 = .ok (.invokestatic 57, 3) := by decide +kernel
theorem dX8_readsWork_39 : decode cX8_readsWork 39 = .ok (.ifCond .eq 18, 3) := by decide +kernel
theorem dX8_readsWork_42 : decode cX8_readsWork 42 = .ok (.aload_n 0, 1) := by decide +kernel
theorem dX8_readsWork_43 : decode cX8_readsWork 43 = .ok (.getfield 13, 3) := by decide +kernel
theorem dX8_readsWork_46 : decode cX8_readsWork 46 = .ok (.iconst 1, 1) := by decide +kernel
theorem dX8_readsWork_47 : decode cX8_readsWork 47 = .ok (.iaload, 1) := by decide +kernel
theorem dX8_readsWork_48 : decode cX8_readsWork 48 = .ok (.iconst 0, 1) := by decide +kernel
theorem dX8_readsWork_49 : decode cX8_readsWork 49 = .ok (.bipush 23, 2) := by decide +kernel
theorem dX8_readsWork_51 : decode cX8_readsWork 51 = .ok (.invokestatic 57, 3) := by decide +kernel
theorem dX8_readsWork_54 : decode cX8_readsWork 54 = .ok (.ifCond .ne 5, 3) := by decide +kernel
theorem dX8_readsWork_57 : decode cX8_readsWork 57 = .ok (.iconst 0, 1) := by decide +kernel
theorem dX8_readsWork_58 : decode cX8_readsWork 58 = .ok (.ireturn, 1) := by decide +kernel
theorem dX8_readsWork_59 : decode cX8_readsWork 59 = .ok (.aload_n 0, 1) := by decide +kernel
theorem dX8_readsWork_60 : decode cX8_readsWork 60 = .ok (.getfield 16, 3) := by decide +kernel
theorem dX8_readsWork_63 : decode cX8_readsWork 63 = .ok (.bipush 10, 2) := by decide +kernel
theorem dX8_readsWork_65 : decode cX8_readsWork 65 = .ok (.iload_n 1, 1) := by decide +kernel
theorem dX8_readsWork_66 : decode cX8_readsWork 66 = .ok (.iadd, 1) := by decide +kernel
theorem dX8_readsWork_67 : decode cX8_readsWork 67 = .ok (.aload_n 0, 1) := by decide +kernel
theorem dX8_readsWork_68 : decode cX8_readsWork 68 = .ok (.getfield 13, 3) := by decide +kernel
theorem dX8_readsWork_71 : decode cX8_readsWork 71 = .ok (.iconst 0, 1) := by decide +kernel
theorem dX8_readsWork_72 : decode cX8_readsWork 72 = .ok (.iaload, 1) := by decide +kernel
theorem dX8_readsWork_73 : decode cX8_readsWork 73 = .ok (.iastore, 1) := by decide +kernel
theorem dX8_readsWork_74 : decode cX8_readsWork 74 = .ok (.aload_n 0, 1) := by decide +kernel
theorem dX8_readsWork_75 : decode cX8_readsWork 75 = .ok (.getfield 16, 3) := by decide +kernel
theorem dX8_readsWork_78 : decode cX8_readsWork 78 = .ok (.bipush 16, 2) := by decide +kernel
theorem dX8_readsWork_80 : decode cX8_readsWork 80 = .ok (.iload_n 1, 1) := by decide +kernel
theorem dX8_readsWork_81 : decode cX8_readsWork 81 = .ok (.iadd, 1) := by decide +kernel
theorem dX8_readsWork_82 : decode cX8_readsWork 82 = .ok (.aload_n 0, 1) := by decide +kernel
theorem dX8_readsWork_83 : decode cX8_readsWork 83 = .ok (.getfield 13, 3) := by decide +kernel
theorem dX8_readsWork_86 : decode cX8_readsWork 86 = .ok (.iconst 1, 1) := by decide +kernel
theorem dX8_readsWork_87 : decode cX8_readsWork 87 = .ok (.iaload, 1) := by decide +kernel
theorem dX8_readsWork_88 : decode cX8_readsWork 88 = .ok (.iastore, 1) := by decide +kernel
theorem dX8_readsWork_89 : decode cX8_readsWork 89 = .ok (.aload_n 0, 1) := by decide +kernel
theorem dX8_readsWork_90 : decode cX8_readsWork 90 = .ok (.getfield 16, 3) := by decide +kernel
theorem dX8_readsWork_93 : decode cX8_readsWork 93 = .ok (.iconst 3, 1) := by decide +kernel
theorem dX8_readsWork_94 : decode cX8_readsWork 94 = .ok (.dup2, 1) := by decide +kernel
theorem dX8_readsWork_95 : decode cX8_readsWork 95 = .ok (.iaload, 1) := by decide +kernel
theorem dX8_readsWork_96 : decode cX8_readsWork 96 = .ok (.iconst 1, 1) := by decide +kernel
theorem dX8_readsWork_97 : decode cX8_readsWork 97 = .ok (.iadd, 1) := by decide +kernel
theorem dX8_readsWork_98 : decode cX8_readsWork 98 = .ok (.iastore, 1) := by decide +kernel
theorem dX8_readsWork_99 : decode cX8_readsWork 99 = .ok (.iconst 1, 1) := by decide +kernel
theorem dX8_readsWork_100 : decode cX8_readsWork 100 = .ok (.ireturn, 1) := by decide +kernel
set_option maxRecDepth 20000 in
theorem ggX8_readsItem_X8_letterAt : GoodIn wsX8_readsItem wsX8_letterAt := goodIn_r _ [6, 7, 8, 38, 39, 40, 41, 42, 43, 44, 45, 46, 47, 48, 49, 50, 51, 52, 53, 54, 55, 56] (by decide +kernel) (by decide +kernel)
set_option maxRecDepth 20000 in
theorem gX8_readsItem_X8_letterAt : GoodIn wsX8_readsItem (wsV RX8 68 RX8 yX8_letterAt wsX8_letterAt) := goodIn_app (goodIn_of _ (by decide +kernel)) ggX8_readsItem_X8_letterAt
set_option maxRecDepth 20000 in
theorem ggX8_readsItem_X8_readsSquares : GoodIn wsX8_readsItem wsX8_readsSquares := goodIn_r _ [12, 13, 14, 15, 16, 17, 5, 18, 1, 2, 3, 4, 6, 7, 8, 19, 20, 21, 22, 23, 24, 38, 39, 40, 41, 42, 43, 44, 45, 46, 47, 48, 49, 50, 51, 52, 53, 54, 55, 56] (by decide +kernel) (by decide +kernel)
set_option maxRecDepth 20000 in
theorem gX8_readsItem_X8_readsSquares : GoodIn wsX8_readsItem (wsV RX8 79 RX8 yX8_readsSquares wsX8_readsSquares) := goodIn_app (goodIn_of _ (by decide +kernel)) ggX8_readsItem_X8_readsSquares
set_option maxRecDepth 20000 in
theorem ggX8_readsItem_X8_readsParasol : GoodIn wsX8_readsItem wsX8_readsParasol := goodIn_r _ [28, 14, 13, 29, 15, 16, 17, 5, 18, 1, 2, 3, 4, 6, 7, 8, 19, 20, 21, 22, 23, 24, 38, 39, 40, 41, 42, 43, 44, 45, 46, 47, 48, 49, 50, 51, 52, 53, 54, 55, 56] (by decide +kernel) (by decide +kernel)
set_option maxRecDepth 20000 in
theorem gX8_readsItem_X8_readsParasol : GoodIn wsX8_readsItem (wsV RX8 83 RX8 yX8_readsParasol wsX8_readsParasol) := goodIn_app (goodIn_of _ (by decide +kernel)) ggX8_readsItem_X8_readsParasol
set_option maxRecDepth 20000 in
theorem ggX8_readsItem_X8_readsPerson : GoodIn wsX8_readsItem wsX8_readsPerson := goodIn_r _ [33, 14, 13, 29, 15, 16, 17, 5, 18, 1, 2, 3, 4, 6, 7, 8, 19, 20, 21, 22, 23, 24, 38, 39, 40, 41, 42, 43, 44, 45, 46, 47, 48, 49, 50, 51, 52, 53, 54, 55, 56] (by decide +kernel) (by decide +kernel)
set_option maxRecDepth 20000 in
theorem gX8_readsItem_X8_readsPerson : GoodIn wsX8_readsItem (wsV RX8 86 RX8 yX8_readsPerson wsX8_readsPerson) := goodIn_app (goodIn_of _ (by decide +kernel)) ggX8_readsItem_X8_readsPerson
set_option maxRecDepth 20000 in
theorem ggX8_readsItem_X8_readsWork : GoodIn wsX8_readsItem wsX8_readsWork := goodIn_r _ [37, 14, 13, 15, 16, 17, 5, 18, 1, 2, 3, 4, 6, 7, 8, 19, 20, 21, 22, 23, 24, 38, 39, 40, 41, 42, 43, 44, 45, 46, 47, 48, 49, 50, 51, 52, 53, 54, 55, 56] (by decide +kernel) (by decide +kernel)
set_option maxRecDepth 20000 in
theorem gX8_readsItem_X8_readsWork : GoodIn wsX8_readsItem (wsV RX8 89 RX8 yX8_readsWork wsX8_readsWork) := goodIn_app (goodIn_of _ (by decide +kernel)) ggX8_readsItem_X8_readsWork
theorem dX8_readsItem_0 : decode cX8_readsItem 0 = .ok (.aload_n 0, 1) := by decide +kernel
theorem dX8_readsItem_1 : decode cX8_readsItem 1 = .ok (.aload_n 0, 1) := by decide +kernel
theorem dX8_readsItem_2 : decode cX8_readsItem 2 = .ok (.getfield 65, 3) := by decide +kernel
theorem dX8_readsItem_5 : decode cX8_readsItem 5 = .ok (.invokevirtual 68, 3) := by decide +kernel
theorem dX8_readsItem_8 : decode cX8_readsItem 8 = .ok (.istore_n 1, 1) := by decide +kernel
theorem dX8_readsItem_9 : decode cX8_readsItem 9 = .ok (.aload_n 0, 1) := by decide +kernel
theorem dX8_readsItem_10 : decode cX8_readsItem 10 = .ok (.dup, 1) := by decide +kernel
theorem dX8_readsItem_11 : decode cX8_readsItem 11 = .ok (.getfield 65, 3) := by decide +kernel
theorem dX8_readsItem_14 : decode cX8_readsItem 14 = .ok (.iconst 1, 1) := by decide +kernel
theorem dX8_readsItem_15 : decode cX8_readsItem 15 = .ok (.iadd, 1) := by decide +kernel
theorem dX8_readsItem_16 : decode cX8_readsItem 16 = .ok (.putfield 65, 3) := by decide +kernel
theorem dX8_readsItem_19 : decode cX8_readsItem 19 = .ok (.iload_n 1, 1) := by decide +kernel
theorem dX8_readsItem_20 : decode cX8_readsItem 20 = .ok (.tableswitch 68 112 119 #[58, 48, 68, 68, 68, 53, 68, 63], 48) := by decide +kernel
theorem dX8_readsItem_68 : decode cX8_readsItem 68 = .ok (.aload_n 0, 1) := by decide +kernel
theorem dX8_readsItem_69 : decode cX8_readsItem 69 = .ok (.invokevirtual 79, 3) := by decide +kernel
theorem dX8_readsItem_72 : decode cX8_readsItem 72 = .ok (.ireturn, 1) := by decide +kernel
theorem dX8_readsItem_73 : decode cX8_readsItem 73 = .ok (.aload_n 0, 1) := by decide +kernel
theorem dX8_readsItem_74 : decode cX8_readsItem 74 = .ok (.invokevirtual 83, 3) := by decide +kernel
theorem dX8_readsItem_77 : decode cX8_readsItem 77 = .ok (.ireturn, 1) := by decide +kernel
theorem dX8_readsItem_78 : decode cX8_readsItem 78 = .ok (.aload_n 0, 1) := by decide +kernel
theorem dX8_readsItem_79 : decode cX8_readsItem 79 = .ok (.invokevirtual 86, 3) := by decide +kernel
theorem dX8_readsItem_82 : decode cX8_readsItem 82 = .ok (.ireturn, 1) := by decide +kernel
theorem dX8_readsItem_83 : decode cX8_readsItem 83 = .ok (.aload_n 0, 1) := by decide +kernel
theorem dX8_readsItem_84 : decode cX8_readsItem 84 = .ok (.invokevirtual 89, 3) := by decide +kernel
theorem dX8_readsItem_87 : decode cX8_readsItem 87 = .ok (.ireturn, 1) := by decide +kernel
theorem dX8_readsItem_88 : decode cX8_readsItem 88 = .ok (.iconst 0, 1) := by decide +kernel
theorem dX8_readsItem_89 : decode cX8_readsItem 89 = .ok (.ireturn, 1) := by decide +kernel
set_option maxRecDepth 20000 in
theorem ggX8_fault_X8_readsItem : GoodIn wsX8_fault wsX8_readsItem := goodIn_r _ [9, 1, 10, 11, 12, 8, 13, 4, 14, 15, 16, 17, 18, 19, 2, 20, 21, 22, 23, 24, 25, 26, 27, 28, 29, 30, 31, 32, 33, 3, 34, 35, 36, 37, 38, 39, 40, 41, 42, 43, 44, 45, 46, 47, 48, 49, 50, 51, 52, 53, 54, 55, 56, 57, 58, 59, 60] (by decide +kernel) (by decide +kernel)
set_option maxRecDepth 20000 in
theorem gX8_fault_X8_readsItem : GoodIn wsX8_fault (wsV RX8 92 RX8 yX8_readsItem wsX8_readsItem) := goodIn_app (goodIn_of _ (by decide +kernel)) ggX8_fault_X8_readsItem
theorem dX8_fault_0 : decode cX8_fault 0 = .ok (.aload_n 0, 1) := by decide +kernel
theorem dX8_fault_1 : decode cX8_fault 1 = .ok (.iconst 0, 1) := by decide +kernel
theorem dX8_fault_2 : decode cX8_fault 2 = .ok (.putfield 65, 3) := by decide +kernel
theorem dX8_fault_5 : decode cX8_fault 5 = .ok (.iconst 0, 1) := by decide +kernel
theorem dX8_fault_6 : decode cX8_fault 6 = .ok (.istore_n 1, 1) := by decide +kernel
theorem dX8_fault_7 : decode cX8_fault 7 = .ok (.iload_n 1, 1) := by decide +kernel
theorem dX8_fault_8 : decode cX8_fault 8 = .ok (.bipush 22, 2) := by decide +kernel
theorem dX8_fault_10 : decode cX8_fault 10 = .ok (.if_icmp .ge 16, 3) := by decide +kernel
theorem dX8_fault_13 : decode cX8_fault 13 = .ok (.aload_n 0, 1) := by decide +kernel
theorem dX8_fault_14 : decode cX8_fault 14 = .ok (.getfield 16, 3) := by decide +kernel
theorem dX8_fault_17 : decode cX8_fault 17 = .ok (.iload_n 1, 1) := by decide +kernel
theorem dX8_fault_18 : decode cX8_fault 18 = .ok (.iconst 0, 1) := by decide +kernel
theorem dX8_fault_19 : decode cX8_fault 19 = .ok (.iastore, 1) := by decide +kernel
theorem dX8_fault_20 : decode cX8_fault 20 = .ok (.iinc 1 1, 3) := by decide +kernel
theorem dX8_fault_23 : decode cX8_fault 23 = .ok (.goto (-16), 3) := by decide +kernel
theorem dX8_fault_26 : decode cX8_fault 26 = .ok (.iconst 0, 1) := by decide +kernel
theorem dX8_fault_27 : decode cX8_fault 27 = .ok (.istore_n 1, 1) := by decide +kernel
theorem dX8_fault_28 : decode cX8_fault 28 = .ok (.iload_n 1, 1) := by decide +kernel
theorem dX8_fault_29 : decode cX8_fault 29 = .ok (.bipush 26, 2) := by decide +kernel
theorem dX8_fault_31 : decode cX8_fault 31 = .ok (.if_icmp .ge 16, 3) := by decide +kernel
theorem dX8_fault_34 : decode cX8_fault 34 = .ok (.aload_n 0, 1) := by decide +kernel
theorem dX8_fault_35 : decode cX8_fault 35 = .ok (.getfield 19, 3) := by decide +kernel
theorem dX8_fault_38 : decode cX8_fault 38 = .ok (.iload_n 1, 1) := by decide +kernel
theorem dX8_fault_39 : decode cX8_fault 39 = .ok (.iconst 0, 1) := by decide +kernel
theorem dX8_fault_40 : decode cX8_fault 40 = .ok (.iastore, 1) := by decide +kernel
theorem dX8_fault_41 : decode cX8_fault 41 = .ok (.iinc 1 1, 3) := by decide +kernel
theorem dX8_fault_44 : decode cX8_fault 44 = .ok (.goto (-16), 3) := by decide +kernel
theorem dX8_fault_47 : decode cX8_fault 47 = .ok (.aload_n 0, 1) := by decide +kernel
theorem dX8_fault_48 : decode cX8_fault 48 = .ok (.getfield 16, 3) := by decide +kernel
theorem dX8_fault_51 : decode cX8_fault 51 = .ok (.iconst 0, 1) := by decide +kernel
theorem dX8_fault_52 : decode cX8_fault 52 = .ok (.bipush 6, 2) := by decide +kernel
theorem dX8_fault_54 : decode cX8_fault 54 = .ok (.iastore, 1) := by decide +kernel
theorem dX8_fault_55 : decode cX8_fault 55 = .ok (.aload_n 0, 1) := by decide +kernel
theorem dX8_fault_56 : decode cX8_fault 56 = .ok (.getfield 65, 3) := by decide +kernel
theorem dX8_fault_59 : decode cX8_fault 59 = .ok (.aload_n 0, 1) := by decide +kernel
theorem dX8_fault_60 : decode cX8_fault 60 = .ok (.getfield 61, 3) := by decide +kernel
theorem dX8_fault_63 : decode cX8_fault 63 = .ok (.if_icmp .ge 20, 3) := by decide +kernel
theorem dX8_fault_66 : decode cX8_fault 66 = .ok (.aload_n 0, 1) := by decide +kernel
theorem dX8_fault_67 : decode cX8_fault 67 = .ok (.getfield 65, 3) := by decide +kernel
theorem dX8_fault_70 : decode cX8_fault 70 = .ok (.istore_n 1, 1) := by decide +kernel
theorem dX8_fault_71 : decode cX8_fault 71 = .ok (.aload_n 0, 1) := by decide +kernel
theorem dX8_fault_72 : decode cX8_fault 72 = .ok (.invokevirtual 92, 3) := by decide +kernel
theorem dX8_fault_75 : decode cX8_fault 75 = .ok (.ifCond .ne 5, 3) := by decide +kernel
theorem dX8_fault_78 : decode cX8_fault 78 = .ok (.iload_n 1, 1) := by decide +kernel
theorem dX8_fault_79 : decode cX8_fault 79 = .ok (.ireturn, 1) := by decide +kernel
theorem dX8_fault_80 : decode cX8_fault 80 = .ok (.goto (-25), 3) := by decide +kernel
theorem dX8_fault_83 : decode cX8_fault 83 = .ok (.bipush (-4), 2) := by decide +kernel
theorem dX8_fault_85 : decode cX8_fault 85 = .ok (.ireturn, 1) := by decide +kernel
set_option maxRecDepth 20000 in
theorem ggX8_lay_X8_fault : GoodIn wsX8_lay wsX8_fault := goodIn_r _ [12, 13, 1, 4, 14, 15, 16, 17, 11, 18, 19, 20, 21, 22, 23, 24, 25, 26, 27, 28, 29, 30, 31, 32, 33, 34, 35, 36, 37, 38, 39, 40, 41, 42, 43, 44, 45, 46, 47, 48, 49, 50, 51, 52, 53, 54, 55, 56, 57, 58, 59, 60, 61, 62, 63, 64, 65, 66, 67, 68, 69] (by decide +kernel) (by decide +kernel)
set_option maxRecDepth 20000 in
theorem gX8_lay_X8_fault : GoodIn wsX8_lay (wsV RX8 95 RX8 yX8_fault wsX8_fault) := goodIn_app (goodIn_of _ (by decide +kernel)) ggX8_lay_X8_fault
theorem dX8_lay_0 : decode cX8_lay 0 = .ok (.aload_n 0, 1) := by decide +kernel
theorem dX8_lay_1 : decode cX8_lay 1 = .ok (.invokevirtual 95, 3) := by decide +kernel
theorem dX8_lay_4 : decode cX8_lay 4 = .ok (.bipush (-4), 2) := by decide +kernel
theorem dX8_lay_6 : decode cX8_lay 6 = .ok (.if_icmp .ne 21, 3) := by decide +kernel
theorem dX8_lay_9 : decode cX8_lay 9 = .ok (.aload_n 0, 1) := by decide +kernel
theorem dX8_lay_10 : decode cX8_lay 10 = .ok (.getfield 16, 3) := by decide +kernel
theorem dX8_lay_13 : decode cX8_lay 13 = .ok (.iconst 1, 1) := by decide +kernel
theorem dX8_lay_14 : decode cX8_lay 14 = .ok (.iaload, 1) := by decide +kernel
theorem dX8_lay_15 : decode cX8_lay 15 = .ok (.ifCond .eq 12, 3) := by decide +kernel
theorem dX8_lay_18 : decode cX8_lay 18 = .ok (.aload_n 0, 1) := by decide +kernel
theorem dX8_lay_19 : decode cX8_lay 19 = .ok (.getfield 16, 3) := by decide +kernel
theorem dX8_lay_22 : decode cX8_lay 22 = .ok (.iconst 2, 1) := by decide +kernel
theorem dX8_lay_23 : decode cX8_lay 23 = .ok (.iaload, 1) := by decide +kernel
theorem dX8_lay_24 : decode cX8_lay 24 = .ok (.ifCond .ne 6, 3) := by decide +kernel
theorem dX8_lay_27 : decode cX8_lay 27 = .ok (.bipush (-2), 2) := by decide +kernel
theorem dX8_lay_29 : decode cX8_lay 29 = .ok (.ireturn, 1) := by decide +kernel
theorem dX8_lay_30 : decode cX8_lay 30 = .ok (.iconst 0, 1) := by decide +kernel
theorem dX8_lay_31 : decode cX8_lay 31 = .ok (.istore_n 1, 1) := by decide +kernel
theorem dX8_lay_32 : decode cX8_lay 32 = .ok (.iload_n 1, 1) := by decide +kernel
theorem dX8_lay_33 : decode cX8_lay 33 = .ok (.bipush 22, 2) := by decide +kernel
theorem dX8_lay_35 : decode cX8_lay 35 = .ok (.if_icmp .ge 21, 3) := by decide +kernel
theorem dX8_lay_38 : decode cX8_lay 38 = .ok (.aload_n 0, 1) := by decide +kernel
theorem dX8_lay_39 : decode cX8_lay 39 = .ok (.getfield 22, 3) := by decide +kernel
theorem dX8_lay_42 : decode cX8_lay 42 = .ok (.iload_n 1, 1) := by decide +kernel
theorem dX8_lay_43 : decode cX8_lay 43 = .ok (.aload_n 0, 1) := by decide +kernel
theorem dX8_lay_44 : decode cX8_lay 44 = .ok (.getfield 16, 3) := by decide +kernel
theorem dX8_lay_47 : decode cX8_lay 47 = .ok (.iload_n 1, 1) := by decide +kernel
theorem dX8_lay_48 : decode cX8_lay 48 = .ok (.iaload, 1) := by decide +kernel
theorem dX8_lay_49 : decode cX8_lay 49 = .ok (.iastore, 1) := by decide +kernel
theorem dX8_lay_50 : decode cX8_lay 50 = .ok (.iinc 1 1, 3) := by decide +kernel
theorem dX8_lay_53 : decode cX8_lay 53 = .ok (.goto (-21), 3) := by decide +kernel
theorem dX8_lay_56 : decode cX8_lay 56 = .ok (.iconst 0, 1) := by decide +kernel
theorem dX8_lay_57 : decode cX8_lay 57 = .ok (.istore_n 1, 1) := by decide +kernel
theorem dX8_lay_58 : decode cX8_lay 58 = .ok (.iload_n 1, 1) := by decide +kernel
theorem dX8_lay_59 : decode cX8_lay 59 = .ok (.bipush 26, 2) := by decide +kernel
theorem dX8_lay_61 : decode cX8_lay 61 = .ok (.if_icmp .ge 21, 3) := by decide +kernel
theorem dX8_lay_64 : decode cX8_lay 64 = .ok (.aload_n 0, 1) := by decide +kernel
theorem dX8_lay_65 : decode cX8_lay 65 = .ok (.getfield 25, 3) := by decide +kernel
theorem dX8_lay_68 : decode cX8_lay 68 = .ok (.iload_n 1, 1) := by decide +kernel
theorem dX8_lay_69 : decode cX8_lay 69 = .ok (.aload_n 0, 1) := by decide +kernel
theorem dX8_lay_70 : decode cX8_lay 70 = .ok (.getfield 19, 3) := by decide +kernel
theorem dX8_lay_73 : decode cX8_lay 73 = .ok (.iload_n 1, 1) := by decide +kernel
theorem dX8_lay_74 : decode cX8_lay 74 = .ok (.iaload, 1) := by decide +kernel
theorem dX8_lay_75 : decode cX8_lay 75 = .ok (.iastore, 1) := by decide +kernel
theorem dX8_lay_76 : decode cX8_lay 76 = .ok (.iinc 1 1, 3) := by decide +kernel
theorem dX8_lay_79 : decode cX8_lay 79 = .ok (.goto (-21), 3) := by decide +kernel
theorem dX8_lay_82 : decode cX8_lay 82 = .ok (.iconst 0, 1) := by decide +kernel
theorem dX8_lay_83 : decode cX8_lay 83 = .ok (.istore_n 1, 1) := by decide +kernel
theorem dX8_lay_84 : decode cX8_lay 84 = .ok (.iload_n 1, 1) := by decide +kernel
theorem dX8_lay_85 : decode cX8_lay 85 = .ok (.iconst 5, 1) := by decide +kernel
theorem dX8_lay_86 : decode cX8_lay 86 = .ok (.if_icmp .ge 20, 3) := by decide +kernel
theorem dX8_lay_89 : decode cX8_lay 89 = .ok (.aload_n 0, 1) := by decide +kernel
theorem dX8_lay_90 : decode cX8_lay 90 = .ok (.getfield 25, 3) := by decide +kernel
theorem dX8_lay_93 : decode cX8_lay 93 = .ok (.bipush 21, 2) := by decide +kernel
theorem dX8_lay_95 : decode cX8_lay 95 = .ok (.iload_n 1, 1) := by decide +kernel
theorem dX8_lay_96 : decode cX8_lay 96 = .ok (.iadd, 1) := by decide +kernel
theorem dX8_lay_97 : decode cX8_lay 97 = .ok (.bipush (-4), 2) := by decide +kernel
theorem dX8_lay_99 : decode cX8_lay 99 = .ok (.iastore, 1) := by decide +kernel
theorem dX8_lay_100 : decode cX8_lay 100 = .ok (.iinc 1 1, 3) := by decide +kernel
theorem dX8_lay_103 : decode cX8_lay 103 = .ok (.goto (-19), 3) := by decide +kernel
theorem dX8_lay_106 : decode cX8_lay 106 = .ok (.aload_n 0, 1) := by decide +kernel
theorem dX8_lay_107 : decode cX8_lay 107 = .ok (.iconst 0, 1) := by decide +kernel
theorem dX8_lay_108 : decode cX8_lay 108 = .ok (.putfield 99, 3) := by decide +kernel
theorem dX8_lay_111 : decode cX8_lay 111 = .ok (.aload_n 0, 1) := by decide +kernel
theorem dX8_lay_112 : decode cX8_lay 112 = .ok (.iconst 0, 1) := by decide +kernel
theorem dX8_lay_113 : decode cX8_lay 113 = .ok (.putfield 102, 3) := by decide +kernel
theorem dX8_lay_116 : decode cX8_lay 116 = .ok (.aload_n 0, 1) := by decide +kernel
theorem dX8_lay_117 : decode cX8_lay 117 = .ok (.iconst 0, 1) := by decide +kernel
theorem dX8_lay_118 : decode cX8_lay 118 = .ok (.putfield 105, 3) := by decide +kernel
theorem dX8_lay_121 : decode cX8_lay 121 = .ok (.aload_n 0, 1) := by decide +kernel
theorem dX8_lay_122 : decode cX8_lay 122 = .ok (.getfield 22, 3) := by decide +kernel
theorem dX8_lay_125 : decode cX8_lay 125 = .ok (.iconst 2, 1) := by decide +kernel
theorem dX8_lay_126 : decode cX8_lay 126 = .ok (.iaload, 1) := by decide +kernel
theorem dX8_lay_127 : decode cX8_lay 127 = .ok (.ireturn, 1) := by decide +kernel
set_option maxRecDepth 20000 in
theorem ggX8_isParasol_X8_in : GoodIn wsX8_isParasol wsX8_in := goodIn_r _ [5] (by decide +kernel) (by decide +kernel)
set_option maxRecDepth 20000 in
theorem gX8_isParasol_X8_in : GoodIn wsX8_isParasol (va_wsS RX8 57 yX8_in wsX8_in) := goodIn_app (goodIn_of _ (by decide +kernel)) ggX8_isParasol_X8_in
theorem dX8_isParasol_0 : decode cX8_isParasol 0 = .ok (.iload_n 1, 1) := by decide +kernel
theorem dX8_isParasol_1 : decode cX8_isParasol 1 = .ok (.iconst 0, 1) := by decide +kernel
theorem dX8_isParasol_2 : decode cX8_isParasol 2 = .ok (.aload_n 0, 1) := by decide +kernel
theorem dX8_isParasol_3 : decode cX8_isParasol 3 = .ok (.getfield 22, 3) := by decide +kernel
theorem dX8_isParasol_6 : decode cX8_isParasol 6 = .ok (.iconst 1, 1) := by decide +kernel
theorem dX8_isParasol_7 : decode cX8_isParasol 7 = .ok (.iaload, 1) := by decide +kernel
theorem dX8_isParasol_8 : decode cX8_isParasol 8 = .ok (.iconst 1, 1) := by decide +kernel
theorem dX8_isParasol_9 : decode cX8_isParasol 9 = .ok (.isub, 1) := by decide +kernel
theorem dX8_isParasol_10 : decode cX8_isParasol 10 = .ok (.invokestatic 57, 3) := by decide +kernel
theorem dX8_isParasol_13 : decode cX8_isParasol 13 = .ok (.ireturn, 1) := by decide +kernel
set_option maxRecDepth 20000 in
theorem ggX8_isPerson_X8_in : GoodIn wsX8_isPerson wsX8_in := goodIn_r _ [5] (by decide +kernel) (by decide +kernel)
set_option maxRecDepth 20000 in
theorem gX8_isPerson_X8_in : GoodIn wsX8_isPerson (va_wsS RX8 57 yX8_in wsX8_in) := goodIn_app (goodIn_of _ (by decide +kernel)) ggX8_isPerson_X8_in
theorem dX8_isPerson_0 : decode cX8_isPerson 0 = .ok (.iload_n 1, 1) := by decide +kernel
theorem dX8_isPerson_1 : decode cX8_isPerson 1 = .ok (.iconst 0, 1) := by decide +kernel
theorem dX8_isPerson_2 : decode cX8_isPerson 2 = .ok (.aload_n 0, 1) := by decide +kernel
theorem dX8_isPerson_3 : decode cX8_isPerson 3 = .ok (.getfield 22, 3) := by decide +kernel
theorem dX8_isPerson_6 : decode cX8_isPerson 6 = .ok (.iconst 2, 1) := by decide +kernel
theorem dX8_isPerson_7 : decode cX8_isPerson 7 = .ok (.iaload, 1) := by decide +kernel
theorem dX8_isPerson_8 : decode cX8_isPerson 8 = .ok (.iconst 1, 1) := by decide +kernel
theorem dX8_isPerson_9 : decode cX8_isPerson 9 = .ok (.isub, 1) := by decide +kernel
theorem dX8_isPerson_10 : decode cX8_isPerson 10 = .ok (.invokestatic 57, 3) := by decide +kernel
theorem dX8_isPerson_13 : decode cX8_isPerson 13 = .ok (.ireturn, 1) := by decide +kernel
set_option maxRecDepth 20000 in
theorem ggX8_isWork_X8_in : GoodIn wsX8_isWork wsX8_in := goodIn_r _ [5] (by decide +kernel) (by decide +kernel)
set_option maxRecDepth 20000 in
theorem gX8_isWork_X8_in : GoodIn wsX8_isWork (va_wsS RX8 57 yX8_in wsX8_in) := goodIn_app (goodIn_of _ (by decide +kernel)) ggX8_isWork_X8_in
theorem dX8_isWork_0 : decode cX8_isWork 0 = .ok (.iload_n 1, 1) := by decide +kernel
theorem dX8_isWork_1 : decode cX8_isWork 1 = .ok (.iconst 0, 1) := by decide +kernel
theorem dX8_isWork_2 : decode cX8_isWork 2 = .ok (.aload_n 0, 1) := by decide +kernel
theorem dX8_isWork_3 : decode cX8_isWork 3 = .ok (.getfield 22, 3) := by decide +kernel
theorem dX8_isWork_6 : decode cX8_isWork 6 = .ok (.iconst 3, 1) := by decide +kernel
theorem dX8_isWork_7 : decode cX8_isWork 7 = .ok (.iaload, 1) := by decide +kernel
theorem dX8_isWork_8 : decode cX8_isWork 8 = .ok (.iconst 1, 1) := by decide +kernel
theorem dX8_isWork_9 : decode cX8_isWork 9 = .ok (.isub, 1) := by decide +kernel
theorem dX8_isWork_10 : decode cX8_isWork 10 = .ok (.invokestatic 57, 3) := by decide +kernel
theorem dX8_isWork_13 : decode cX8_isWork 13 = .ok (.ireturn, 1) := by decide +kernel
set_option maxRecDepth 20000 in
theorem ggX8_isHour_X8_in : GoodIn wsX8_isHour wsX8_in := goodIn_r _ [4] (by decide +kernel) (by decide +kernel)
set_option maxRecDepth 20000 in
theorem gX8_isHour_X8_in : GoodIn wsX8_isHour (va_wsS RX8 57 yX8_in wsX8_in) := goodIn_app (goodIn_of _ (by decide +kernel)) ggX8_isHour_X8_in
theorem dX8_isHour_0 : decode cX8_isHour 0 = .ok (.iload_n 0, 1) := by decide +kernel
theorem dX8_isHour_1 : decode cX8_isHour 1 = .ok (.iconst 0, 1) := by decide +kernel
theorem dX8_isHour_2 : decode cX8_isHour 2 = .ok (.bipush 23, 2) := by decide +kernel
theorem dX8_isHour_4 : decode cX8_isHour 4 = .ok (.invokestatic 57, 3) := by decide +kernel
theorem dX8_isHour_7 : decode cX8_isHour 7 = .ok (.ireturn, 1) := by decide +kernel
theorem dX8_under_0 : decode cX8_under 0 = .ok (.iconst 0, 1) := by decide +kernel
theorem dX8_under_1 : decode cX8_under 1 = .ok (.istore_n 3, 1) := by decide +kernel
theorem dX8_under_2 : decode cX8_under 2 = .ok (.iconst 0, 1) := by decide +kernel
theorem dX8_under_3 : decode cX8_under 3 = .ok (.istore 4, 2) := by decide +kernel
theorem dX8_under_5 : decode cX8_under 5 = .ok (.iload 4, 2) := by decide +kernel
theorem dX8_under_7 : decode cX8_under 7 = .ok (.aload_n 0, 1) := by decide +kernel
theorem dX8_under_8 : decode cX8_under 8 = .ok (.getfield 22, 3) := by decide +kernel
theorem dX8_under_11 : decode cX8_under 11 = .ok (.iconst 2, 1) := by decide +kernel
theorem dX8_under_12 : decode cX8_under 12 = .ok (.iaload, 1) := by decide +kernel
theorem dX8_under_13 : decode cX8_under 13 = .ok (.if_icmp .ge 31, 3) := by decide +kernel
theorem dX8_under_16 : decode cX8_under 16 = .ok (.iload_n 3, 1) := by decide +kernel
theorem dX8_under_17 : decode cX8_under 17 = .ok (.aload_n 1, 1) := by decide +kernel
theorem dX8_under_18 : decode cX8_under 18 = .ok (.bipush 21, 2) := by decide +kernel
theorem dX8_under_20 : decode cX8_under 20 = .ok (.iload 4, 2) := by decide +kernel
theorem dX8_under_22 : decode cX8_under 22 = .ok (.iadd, 1) := by decide +kernel
theorem dX8_under_23 : decode cX8_under 23 = .ok (.iaload, 1) := by decide +kernel
theorem dX8_under_24 : decode cX8_under 24 = .ok (.iload_n 2, 1) := by decide +kernel
theorem dX8_under_25 : decode cX8_under 25 = .ok (.if_icmp .ne 10, 3) := by decide +kernel
theorem dX8_under_28 : decode cX8_under 28 = .ok (.iconst 1, 1) := by decide +kernel
theorem dX8_under_29 : decode cX8_under 29 = .ok (.iload 4, 2) := by decide +kernel
theorem dX8_under_31 : decode cX8_under 31 = .ok (.ishl, 1) := by decide +kernel
theorem dX8_under_32 : decode cX8_under 32 = .ok (.goto 4, 3) := by decide +kernel
theorem dX8_under_35 : decode cX8_under 35 = .ok (.iconst 0, 1) := by decide +kernel
theorem dX8_under_36 : decode cX8_under 36 = .ok (.ior, 1) := by decide +kernel
theorem dX8_under_37 : decode cX8_under 37 = .ok (.istore_n 3, 1) := by decide +kernel
theorem dX8_under_38 : decode cX8_under 38 = .ok (.iinc 4 1, 3) := by decide +kernel
theorem dX8_under_41 : decode cX8_under 41 = .ok (.goto (-36), 3) := by decide +kernel
theorem dX8_under_44 : decode cX8_under 44 = .ok (.iload_n 3, 1) := by decide +kernel
theorem dX8_under_45 : decode cX8_under 45 = .ok (.ireturn, 1) := by decide +kernel
theorem dX8_squareOf_0 : decode cX8_squareOf 0 = .ok (.iconst 0, 1) := by decide +kernel
theorem dX8_squareOf_1 : decode cX8_squareOf 1 = .ok (.istore_n 3, 1) := by decide +kernel
theorem dX8_squareOf_2 : decode cX8_squareOf 2 = .ok (.iconst 0, 1) := by decide +kernel
theorem dX8_squareOf_3 : decode cX8_squareOf 3 = .ok (.istore 4, 2) := by decide +kernel
theorem dX8_squareOf_5 : decode cX8_squareOf 5 = .ok (.iload 4, 2) := by decide +kernel
theorem dX8_squareOf_7 : decode cX8_squareOf 7 = .ok (.aload_n 0, 1) := by decide +kernel
theorem dX8_squareOf_8 : decode cX8_squareOf 8 = .ok (.getfield 22, 3) := by decide +kernel
theorem dX8_squareOf_11 : decode cX8_squareOf 11 = .ok (.iconst 2, 1) := by decide +kernel
theorem dX8_squareOf_12 : decode cX8_squareOf 12 = .ok (.iaload, 1) := by decide +kernel
theorem dX8_squareOf_13 : decode cX8_squareOf 13 = .ok (.if_icmp .ge 32, 3) := by decide +kernel
theorem dX8_squareOf_16 : decode cX8_squareOf 16 = .ok (.aload_n 1, 1) := by decide +kernel
theorem dX8_squareOf_17 : decode cX8_squareOf 17 = .ok (.bipush 21, 2) := by decide +kernel
theorem dX8_squareOf_19 : decode cX8_squareOf 19 = .ok (.iload 4, 2) := by decide +kernel
theorem dX8_squareOf_21 : decode cX8_squareOf 21 = .ok (.iadd, 1) := by decide +kernel
theorem dX8_squareOf_22 : decode cX8_squareOf 22 = .ok (.iaload, 1) := by decide +kernel
theorem dX8_squareOf_23 : decode cX8_squareOf 23 = .ok (.iload_n 2, 1) := by decide +kernel
theorem dX8_squareOf_24 : decode cX8_squareOf 24 = .ok (.if_icmp .ne 13, 3) := by decide +kernel
theorem dX8_squareOf_27 : decode cX8_squareOf 27 = .ok (.aload_n 1, 1) := by decide +kernel
theorem dX8_squareOf_28 : decode cX8_squareOf 28 = .ok (.bipush 16, 2) := by decide +kernel
theorem dX8_squareOf_30 : decode cX8_squareOf 30 = .ok (.iload 4, 2) := by decide +kernel
theorem dX8_squareOf_32 : decode cX8_squareOf 32 = .ok (.iadd, 1) := by decide +kernel
theorem dX8_squareOf_33 : decode cX8_squareOf 33 = .ok (.iaload, 1) := by decide +kernel
theorem dX8_squareOf_34 : decode cX8_squareOf 34 = .ok (.goto 4, 3) := by decide +kernel
theorem dX8_squareOf_37 : decode cX8_squareOf 37 = .ok (.iload_n 3, 1) := by decide +kernel
theorem dX8_squareOf_38 : decode cX8_squareOf 38 = .ok (.istore_n 3, 1) := by decide +kernel
theorem dX8_squareOf_39 : decode cX8_squareOf 39 = .ok (.iinc 4 1, 3) := by decide +kernel
theorem dX8_squareOf_42 : decode cX8_squareOf 42 = .ok (.goto (-37), 3) := by decide +kernel
theorem dX8_squareOf_45 : decode cX8_squareOf 45 = .ok (.iload_n 3, 1) := by decide +kernel
theorem dX8_squareOf_46 : decode cX8_squareOf 46 = .ok (.ireturn, 1) := by decide +kernel
theorem dX8_clock_0 : decode cX8_clock 0 = .ok (.iload_n 2, 1) := by decide +kernel
theorem dX8_clock_1 : decode cX8_clock 1 = .ok (.bipush (-4), 2) := by decide +kernel
theorem dX8_clock_3 : decode cX8_clock 3 = .ok (.if_icmp .ne 15, 3) := by decide +kernel
theorem dX8_clock_6 : decode cX8_clock 6 = .ok (.iload_n 1, 1) := by decide +kernel
theorem dX8_clock_7 : decode cX8_clock 7 = .ok (.ifCond .ne 8, 3) := by decide +kernel
theorem dX8_clock_10 : decode cX8_clock 10 = .ok (.bipush (-4), 2) := by decide +kernel
theorem dX8_clock_12 : decode cX8_clock 12 = .ok (.goto 5, 3) := by decide +kernel
theorem dX8_clock_15 : decode cX8_clock 15 = .ok (.bipush 12, 2) := by decide +kernel
theorem dX8_clock_17 : decode cX8_clock 17 = .ok (.ireturn, 1) := by decide +kernel
theorem dX8_clock_18 : decode cX8_clock 18 = .ok (.aload_n 0, 1) := by decide +kernel
theorem dX8_clock_19 : decode cX8_clock 19 = .ok (.bipush 10, 2) := by decide +kernel
theorem dX8_clock_21 : decode cX8_clock 21 = .ok (.iload_n 2, 1) := by decide +kernel
theorem dX8_clock_22 : decode cX8_clock 22 = .ok (.iadd, 1) := by decide +kernel
theorem dX8_clock_23 : decode cX8_clock 23 = .ok (.iaload, 1) := by decide +kernel
theorem dX8_clock_24 : decode cX8_clock 24 = .ok (.bipush 12, 2) := by decide +kernel
theorem dX8_clock_26 : decode cX8_clock 26 = .ok (.if_icmp .gt 11, 3) := by decide +kernel
theorem dX8_clock_29 : decode cX8_clock 29 = .ok (.aload_n 0, 1) := by decide +kernel
theorem dX8_clock_30 : decode cX8_clock 30 = .ok (.iconst 4, 1) := by decide +kernel
theorem dX8_clock_31 : decode cX8_clock 31 = .ok (.iload_n 2, 1) := by decide +kernel
theorem dX8_clock_32 : decode cX8_clock 32 = .ok (.iadd, 1) := by decide +kernel
theorem dX8_clock_33 : decode cX8_clock 33 = .ok (.iaload, 1) := by decide +kernel
theorem dX8_clock_34 : decode cX8_clock 34 = .ok (.goto 5, 3) := by decide +kernel
theorem dX8_clock_37 : decode cX8_clock 37 = .ok (.bipush 12, 2) := by decide +kernel
theorem dX8_clock_39 : decode cX8_clock 39 = .ok (.ireturn, 1) := by decide +kernel
set_option maxRecDepth 20000 in
theorem ggX8_time_X8_clock : GoodIn wsX8_time wsX8_clock := goodIn_r _ [4] (by decide +kernel) (by decide +kernel)
set_option maxRecDepth 20000 in
theorem gX8_time_X8_clock : GoodIn wsX8_time (va_wsS RX8 108 yX8_clock wsX8_clock) := goodIn_app (goodIn_of _ (by decide +kernel)) ggX8_time_X8_clock
theorem dX8_time_0 : decode cX8_time 0 = .ok (.aload_n 0, 1) := by decide +kernel
theorem dX8_time_1 : decode cX8_time 1 = .ok (.aload_n 0, 1) := by decide +kernel
theorem dX8_time_2 : decode cX8_time 2 = .ok (.bipush 16, 2) := by decide +kernel
theorem dX8_time_4 : decode cX8_time 4 = .ok (.iload_n 1, 1) := by decide +kernel
theorem dX8_time_5 : decode cX8_time 5 = .ok (.iadd, 1) := by decide +kernel
theorem dX8_time_6 : decode cX8_time 6 = .ok (.iaload, 1) := by decide +kernel
theorem dX8_time_7 : decode cX8_time 7 = .ok (.aload_n 0, 1) := by decide +kernel
theorem dX8_time_8 : decode cX8_time 8 = .ok (.bipush 21, 2) := by decide +kernel
theorem dX8_time_10 : decode cX8_time 10 = .ok (.iload_n 1, 1) := by decide +kernel
theorem dX8_time_11 : decode cX8_time 11 = .ok (.iadd, 1) := by decide +kernel
theorem dX8_time_12 : decode cX8_time 12 = .ok (.iaload, 1) := by decide +kernel
theorem dX8_time_13 : decode cX8_time 13 = .ok (.invokestatic 108, 3) := by decide +kernel
theorem dX8_time_16 : decode cX8_time 16 = .ok (.ireturn, 1) := by decide +kernel
theorem dX8_hasShade_0 : decode cX8_hasShade 0 = .ok (.aload_n 0, 1) := by decide +kernel
theorem dX8_hasShade_1 : decode cX8_hasShade 1 = .ok (.bipush 21, 2) := by decide +kernel
theorem dX8_hasShade_3 : decode cX8_hasShade 3 = .ok (.iload_n 1, 1) := by decide +kernel
theorem dX8_hasShade_4 : decode cX8_hasShade 4 = .ok (.iadd, 1) := by decide +kernel
theorem dX8_hasShade_5 : decode cX8_hasShade 5 = .ok (.iaload, 1) := by decide +kernel
theorem dX8_hasShade_6 : decode cX8_hasShade 6 = .ok (.istore_n 2, 1) := by decide +kernel
theorem dX8_hasShade_7 : decode cX8_hasShade 7 = .ok (.aload_n 0, 1) := by decide +kernel
theorem dX8_hasShade_8 : decode cX8_hasShade 8 = .ok (.bipush 16, 2) := by decide +kernel
theorem dX8_hasShade_10 : decode cX8_hasShade 10 = .ok (.iload_n 1, 1) := by decide +kernel
theorem dX8_hasShade_11 : decode cX8_hasShade 11 = .ok (.iadd, 1) := by decide +kernel
theorem dX8_hasShade_12 : decode cX8_hasShade 12 = .ok (.iaload, 1) := by decide +kernel
theorem dX8_hasShade_13 : decode cX8_hasShade 13 = .ok (.ifCond .eq 20, 3) := by decide +kernel
theorem dX8_hasShade_16 : decode cX8_hasShade 16 = .ok (.iload_n 2, 1) := by decide +kernel
theorem dX8_hasShade_17 : decode cX8_hasShade 17 = .ok (.bipush (-4), 2) := by decide +kernel
theorem dX8_hasShade_19 : decode cX8_hasShade 19 = .ok (.if_icmp .eq 18, 3) := by decide +kernel
theorem dX8_hasShade_22 : decode cX8_hasShade 22 = .ok (.aload_n 0, 1) := by decide +kernel
theorem dX8_hasShade_23 : decode cX8_hasShade 23 = .ok (.bipush 10, 2) := by decide +kernel
theorem dX8_hasShade_25 : decode cX8_hasShade 25 = .ok (.iload_n 2, 1) := by decide +kernel
theorem dX8_hasShade_26 : decode cX8_hasShade 26 = .ok (.iadd, 1) := by decide +kernel
theorem dX8_hasShade_27 : decode cX8_hasShade 27 = .ok (.iaload, 1) := by decide +kernel
theorem dX8_hasShade_28 : decode cX8_hasShade 28 = .ok (.bipush 12, 2) := by decide +kernel
theorem dX8_hasShade_30 : decode cX8_hasShade 30 = .ok (.if_icmp .gt 7, 3) := by decide +kernel
theorem dX8_hasShade_33 : decode cX8_hasShade 33 = .ok (.iconst 1, 1) := by decide +kernel
theorem dX8_hasShade_34 : decode cX8_hasShade 34 = .ok (.goto 4, 3) := by decide +kernel
theorem dX8_hasShade_37 : decode cX8_hasShade 37 = .ok (.iconst 0, 1) := by decide +kernel
theorem dX8_hasShade_38 : decode cX8_hasShade 38 = .ok (.ireturn, 1) := by decide +kernel
theorem dX8_goesOn_0 : decode cX8_goesOn 0 = .ok (.aload_n 0, 1) := by decide +kernel
theorem dX8_goesOn_1 : decode cX8_goesOn 1 = .ok (.getfield 22, 3) := by decide +kernel
theorem dX8_goesOn_4 : decode cX8_goesOn 4 = .ok (.iconst 4, 1) := by decide +kernel
theorem dX8_goesOn_5 : decode cX8_goesOn 5 = .ok (.iload_n 1, 1) := by decide +kernel
theorem dX8_goesOn_6 : decode cX8_goesOn 6 = .ok (.iadd, 1) := by decide +kernel
theorem dX8_goesOn_7 : decode cX8_goesOn 7 = .ok (.iaload, 1) := by decide +kernel
theorem dX8_goesOn_8 : decode cX8_goesOn 8 = .ok (.istore_n 3, 1) := by decide +kernel
theorem dX8_goesOn_9 : decode cX8_goesOn 9 = .ok (.iload_n 3, 1) := by decide +kernel
theorem dX8_goesOn_10 : decode cX8_goesOn 10 = .ok (.iconst 2, 1) := by decide +kernel
theorem dX8_goesOn_11 : decode cX8_goesOn 11 = .ok (.if_icmp .ne 11, 3) := by decide +kernel
theorem dX8_goesOn_14 : decode cX8_goesOn 14 = .ok (.iconst 1, 1) := by decide +kernel
theorem dX8_goesOn_15 : decode cX8_goesOn 15 = .ok (.iload_n 2, 1) := by decide +kernel
theorem dX8_goesOn_16 : decode cX8_goesOn 16 = .ok (.iconst 2, 1) := by decide +kernel
theorem dX8_goesOn_17 : decode cX8_goesOn 17 = .ok (.irem, 1) := by decide +kernel
theorem dX8_goesOn_18 : decode cX8_goesOn 18 = .ok (.isub, 1) := by decide +kernel
theorem dX8_goesOn_19 : decode cX8_goesOn 19 = .ok (.goto 13, 3) := by decide +kernel
theorem dX8_goesOn_22 : decode cX8_goesOn 22 = .ok (.iload_n 3, 1) := by decide +kernel
theorem dX8_goesOn_23 : decode cX8_goesOn 23 = .ok (.iconst 3, 1) := by decide +kernel
theorem dX8_goesOn_24 : decode cX8_goesOn 24 = .ok (.if_icmp .ne 7, 3) := by decide +kernel
theorem dX8_goesOn_27 : decode cX8_goesOn 27 = .ok (.iconst 2, 1) := by decide +kernel
theorem dX8_goesOn_28 : decode cX8_goesOn 28 = .ok (.goto 4, 3) := by decide +kernel
theorem dX8_goesOn_31 : decode cX8_goesOn 31 = .ok (.iconst 1, 1) := by decide +kernel
theorem dX8_goesOn_32 : decode cX8_goesOn 32 = .ok (.ireturn, 1) := by decide +kernel
theorem dX8_wears_0 : decode cX8_wears 0 = .ok (.aload_n 0, 1) := by decide +kernel
theorem dX8_wears_1 : decode cX8_wears 1 = .ok (.getfield 22, 3) := by decide +kernel
theorem dX8_wears_4 : decode cX8_wears 4 = .ok (.iconst 4, 1) := by decide +kernel
theorem dX8_wears_5 : decode cX8_wears 5 = .ok (.iload_n 1, 1) := by decide +kernel
theorem dX8_wears_6 : decode cX8_wears 6 = .ok (.iadd, 1) := by decide +kernel
theorem dX8_wears_7 : decode cX8_wears 7 = .ok (.iaload, 1) := by decide +kernel
theorem dX8_wears_8 : decode cX8_wears 8 = .ok (.iconst 1, 1) := by decide +kernel
theorem dX8_wears_9 : decode cX8_wears 9 = .ok (.if_icmp .ne 11, 3) := by decide +kernel
theorem dX8_wears_12 : decode cX8_wears 12 = .ok (.iconst 1, 1) := by decide +kernel
theorem dX8_wears_13 : decode cX8_wears 13 = .ok (.iload_n 2, 1) := by decide +kernel
theorem dX8_wears_14 : decode cX8_wears 14 = .ok (.iconst 2, 1) := by decide +kernel
theorem dX8_wears_15 : decode cX8_wears 15 = .ok (.irem, 1) := by decide +kernel
theorem dX8_wears_16 : decode cX8_wears 16 = .ok (.isub, 1) := by decide +kernel
theorem dX8_wears_17 : decode cX8_wears 17 = .ok (.goto 4, 3) := by decide +kernel
theorem dX8_wears_20 : decode cX8_wears 20 = .ok (.iconst 1, 1) := by decide +kernel
theorem dX8_wears_21 : decode cX8_wears 21 = .ok (.ireturn, 1) := by decide +kernel
set_option maxRecDepth 20000 in
theorem ggX8_parasol_X8_isParasol : GoodIn wsX8_parasol wsX8_isParasol := goodIn_r _ [7, 1, 8, 9, 6, 10, 19, 20, 21, 22, 23, 24, 25, 26, 27, 28, 29, 30, 31, 32, 33, 34, 35, 36, 37] (by decide +kernel) (by decide +kernel)
set_option maxRecDepth 20000 in
theorem gX8_parasol_X8_isParasol : GoodIn wsX8_parasol (wsV RX8 112 RX8 yX8_isParasol wsX8_isParasol) := goodIn_app (goodIn_of _ (by decide +kernel)) ggX8_parasol_X8_isParasol
set_option maxRecDepth 20000 in
theorem ggX8_parasol_X8_under : GoodIn wsX8_parasol wsX8_under := goodIn_r _ [14, 1, 19, 20, 21, 22, 23, 24, 25, 26, 27, 28, 29, 30, 31, 32, 33, 34, 35, 36, 37] (by decide +kernel) (by decide +kernel)
set_option maxRecDepth 20000 in
theorem gX8_parasol_X8_under : GoodIn wsX8_parasol (wsV RX8 115 RX8 yX8_under wsX8_under) := goodIn_app (goodIn_of _ (by decide +kernel)) ggX8_parasol_X8_under
set_option maxRecDepth 20000 in
theorem ggX8_parasol_X8_squareOf : GoodIn wsX8_parasol wsX8_squareOf := goodIn_r _ [18, 1, 19, 20, 21, 22, 23, 24, 25, 26, 27, 28, 29, 30, 31, 32, 33, 34, 35, 36, 37] (by decide +kernel) (by decide +kernel)
set_option maxRecDepth 20000 in
theorem gX8_parasol_X8_squareOf : GoodIn wsX8_parasol (wsV RX8 119 RX8 yX8_squareOf wsX8_squareOf) := goodIn_app (goodIn_of _ (by decide +kernel)) ggX8_parasol_X8_squareOf
theorem dX8_parasol_0 : decode cX8_parasol 0 = .ok (.aload_n 0, 1) := by decide +kernel
theorem dX8_parasol_1 : decode cX8_parasol 1 = .ok (.iload_n 1, 1) := by decide +kernel
theorem dX8_parasol_2 : decode cX8_parasol 2 = .ok (.invokevirtual 112, 3) := by decide +kernel
theorem dX8_parasol_5 : decode cX8_parasol 5 = .ok (.ifCond .ne 5, 3) := by decide +kernel
theorem dX8_parasol_8 : decode cX8_parasol 8 = .ok (.iconst (-1), 1) := by decide +kernel
theorem dX8_parasol_9 : decode cX8_parasol 9 = .ok (.ireturn, 1) := by decide +kernel
theorem dX8_parasol_10 : decode cX8_parasol 10 = .ok (.iload_n 2, 1) := by decide +kernel
theorem dX8_parasol_11 : decode cX8_parasol 11 = .ok (.tableswitch 81 0 4 #[33, 42, 51, 61, 71], 33) := by decide +kernel
theorem dX8_parasol_44 : decode cX8_parasol 44 = .ok (.aload_n 0, 1) := by decide +kernel
theorem dX8_parasol_45 : decode cX8_parasol 45 = .ok (.getfield 22, 3) := by decide +kernel
theorem dX8_parasol_48 : decode cX8_parasol 48 = .ok (.iconst 4, 1) := by decide +kernel
theorem dX8_parasol_49 : decode cX8_parasol 49 = .ok (.iload_n 1, 1) := by decide +kernel
theorem dX8_parasol_50 : decode cX8_parasol 50 = .ok (.iadd, 1) := by decide +kernel
theorem dX8_parasol_51 : decode cX8_parasol 51 = .ok (.iaload, 1) := by decide +kernel
theorem dX8_parasol_52 : decode cX8_parasol 52 = .ok (.ireturn, 1) := by decide +kernel
theorem dX8_parasol_53 : decode cX8_parasol 53 = .ok (.aload_n 0, 1) := by decide +kernel
theorem dX8_parasol_54 : decode cX8_parasol 54 = .ok (.getfield 25, 3) := by decide +kernel
theorem dX8_parasol_57 : decode cX8_parasol 57 = .ok (.iconst 4, 1) := by decide +kernel
theorem dX8_parasol_58 : decode cX8_parasol 58 = .ok (.iload_n 1, 1) := by decide +kernel
theorem dX8_parasol_59 : decode cX8_parasol 59 = .ok (.iadd, 1) := by decide +kernel
theorem dX8_parasol_60 : decode cX8_parasol 60 = .ok (.iaload, 1) := by decide +kernel
theorem dX8_parasol_61 : decode cX8_parasol 61 = .ok (.ireturn, 1) := by decide +kernel
theorem dX8_parasol_62 : decode cX8_parasol 62 = .ok (.aload_n 0, 1) := by decide +kernel
theorem dX8_parasol_63 : decode cX8_parasol 63 = .ok (.getfield 25, 3) := by decide +kernel
theorem dX8_parasol_66 : decode cX8_parasol 66 = .ok (.bipush 10, 2) := by decide +kernel
theorem dX8_parasol_68 : decode cX8_parasol 68 = .ok (.iload_n 1, 1) := by decide +kernel
theorem dX8_parasol_69 : decode cX8_parasol 69 = .ok (.iadd, 1) := by decide +kernel
theorem dX8_parasol_70 : decode cX8_parasol 70 = .ok (.iaload, 1) := by decide +kernel
theorem dX8_parasol_71 : decode cX8_parasol 71 = .ok (.ireturn, 1) := by decide +kernel
theorem dX8_parasol_72 : decode cX8_parasol 72 = .ok (.aload_n 0, 1) := by decide +kernel
theorem dX8_parasol_73 : decode cX8_parasol 73 = .ok (.aload_n 0, 1) := by decide +kernel
theorem dX8_parasol_74 : decode cX8_parasol 74 = .ok (.getfield 25, 3) := by decide +kernel
theorem dX8_parasol_77 : decode cX8_parasol 77 = .ok (.iload_n 1, 1) := by decide +kernel
theorem dX8_parasol_78 : decode cX8_parasol 78 = .ok (.invokevirtual 115, 3) := by decide +kernel
theorem dX8_parasol_81 : decode cX8_parasol 81 = .ok (.ireturn, 1) := by decide +kernel
theorem dX8_parasol_82 : decode cX8_parasol 82 = .ok (.aload_n 0, 1) := by decide +kernel
theorem dX8_parasol_83 : decode cX8_parasol 83 = .ok (.aload_n 0, 1) := by decide +kernel
theorem dX8_parasol_84 : decode cX8_parasol 84 = .ok (.getfield 25, 3) := by decide +kernel
theorem dX8_parasol_87 : decode cX8_parasol 87 = .ok (.iload_n 1, 1) := by decide +kernel
theorem dX8_parasol_88 : decode cX8_parasol 88 = .ok (.invokevirtual 119, 3) := by decide +kernel
theorem dX8_parasol_91 : decode cX8_parasol 91 = .ok (.ireturn, 1) := by decide +kernel
theorem dX8_parasol_92 : decode cX8_parasol 92 = .ok (.iconst (-1), 1) := by decide +kernel
theorem dX8_parasol_93 : decode cX8_parasol 93 = .ok (.ireturn, 1) := by decide +kernel
set_option maxRecDepth 20000 in
theorem ggX8_person_X8_isPerson : GoodIn wsX8_person wsX8_isPerson := goodIn_r _ [6, 7, 8, 9, 5, 10, 20, 21, 22, 23, 24, 25, 26, 27, 28, 29, 30, 31, 32, 33, 34, 35, 36, 37, 38] (by decide +kernel) (by decide +kernel)
set_option maxRecDepth 20000 in
theorem gX8_person_X8_isPerson : GoodIn wsX8_person (wsV RX8 122 RX8 yX8_isPerson wsX8_isPerson) := goodIn_app (goodIn_of _ (by decide +kernel)) ggX8_person_X8_isPerson
set_option maxRecDepth 20000 in
theorem ggX8_person_X8_time : GoodIn wsX8_person wsX8_time := goodIn_r _ [13, 14, 15, 5, 16] (by decide +kernel) (by decide +kernel)
set_option maxRecDepth 20000 in
theorem gX8_person_X8_time : GoodIn wsX8_person (va_wsS RX8 125 yX8_time wsX8_time) := goodIn_app (goodIn_of _ (by decide +kernel)) ggX8_person_X8_time
set_option maxRecDepth 20000 in
theorem ggX8_person_X8_hasShade : GoodIn wsX8_person wsX8_hasShade := goodIn_r _ [19] (by decide +kernel) (by decide +kernel)
set_option maxRecDepth 20000 in
theorem gX8_person_X8_hasShade : GoodIn wsX8_person (va_wsS RX8 128 yX8_hasShade wsX8_hasShade) := goodIn_app (goodIn_of _ (by decide +kernel)) ggX8_person_X8_hasShade
theorem dX8_person_0 : decode cX8_person 0 = .ok (.aload_n 0, 1) := by decide +kernel
theorem dX8_person_1 : decode cX8_person 1 = .ok (.iload_n 1, 1) := by decide +kernel
theorem dX8_person_2 : decode cX8_person 2 = .ok (.invokevirtual 122, 3) := by decide +kernel
theorem dX8_person_5 : decode cX8_person 5 = .ok (.ifCond .ne 5, 3) := by decide +kernel
theorem dX8_person_8 : decode cX8_person 8 = .ok (.iconst (-1), 1) := by decide +kernel
theorem dX8_person_9 : decode cX8_person 9 = .ok (.ireturn, 1) := by decide +kernel
theorem dX8_person_10 : decode cX8_person 10 = .ok (.iload_n 2, 1) := by decide +kernel
theorem dX8_person_11 : decode cX8_person 11 = .ok (.tableswitch 90 0 4 #[33, 43, 53, 62, 73], 33) := by decide +kernel
theorem dX8_person_44 : decode cX8_person 44 = .ok (.aload_n 0, 1) := by decide +kernel
theorem dX8_person_45 : decode cX8_person 45 = .ok (.getfield 25, 3) := by decide +kernel
theorem dX8_person_48 : decode cX8_person 48 = .ok (.bipush 16, 2) := by decide +kernel
theorem dX8_person_50 : decode cX8_person 50 = .ok (.iload_n 1, 1) := by decide +kernel
theorem dX8_person_51 : decode cX8_person 51 = .ok (.iadd, 1) := by decide +kernel
theorem dX8_person_52 : decode cX8_person 52 = .ok (.iaload, 1) := by decide +kernel
theorem dX8_person_53 : decode cX8_person 53 = .ok (.ireturn, 1) := by decide +kernel
theorem dX8_person_54 : decode cX8_person 54 = .ok (.aload_n 0, 1) := by decide +kernel
theorem dX8_person_55 : decode cX8_person 55 = .ok (.getfield 25, 3) := by decide +kernel
theorem dX8_person_58 : decode cX8_person 58 = .ok (.bipush 21, 2) := by decide +kernel
theorem dX8_person_60 : decode cX8_person 60 = .ok (.iload_n 1, 1) := by decide +kernel
theorem dX8_person_61 : decode cX8_person 61 = .ok (.iadd, 1) := by decide +kernel
theorem dX8_person_62 : decode cX8_person 62 = .ok (.iaload, 1) := by decide +kernel
theorem dX8_person_63 : decode cX8_person 63 = .ok (.ireturn, 1) := by decide +kernel
theorem dX8_person_64 : decode cX8_person 64 = .ok (.aload_n 0, 1) := by decide +kernel
theorem dX8_person_65 : decode cX8_person 65 = .ok (.getfield 25, 3) := by decide +kernel
theorem dX8_person_68 : decode cX8_person 68 = .ok (.iload_n 1, 1) := by decide +kernel
theorem dX8_person_69 : decode cX8_person 69 = .ok (.invokestatic 125, 3) := by decide +kernel
theorem dX8_person_72 : decode cX8_person 72 = .ok (.ireturn, 1) := by decide +kernel
theorem dX8_person_73 : decode cX8_person 73 = .ok (.aload_n 0, 1) := by decide +kernel
theorem dX8_person_74 : decode cX8_person 74 = .ok (.getfield 25, 3) := by decide +kernel
theorem dX8_person_77 : decode cX8_person 77 = .ok (.iconst 3, 1) := by decide +kernel
theorem dX8_person_78 : decode cX8_person 78 = .ok (.iaload, 1) := by decide +kernel
theorem dX8_person_79 : decode cX8_person 79 = .ok (.iload_n 1, 1) := by decide +kernel
theorem dX8_person_80 : decode cX8_person 80 = .ok (.ishr, 1) := by decide +kernel
theorem dX8_person_81 : decode cX8_person 81 = .ok (.iconst 1, 1) := by decide +kernel
theorem dX8_person_82 : decode cX8_person 82 = .ok (.iand, 1) := by decide +kernel
theorem dX8_person_83 : decode cX8_person 83 = .ok (.ireturn, 1) := by decide +kernel
theorem dX8_person_84 : decode cX8_person 84 = .ok (.aload_n 0, 1) := by decide +kernel
theorem dX8_person_85 : decode cX8_person 85 = .ok (.getfield 25, 3) := by decide +kernel
theorem dX8_person_88 : decode cX8_person 88 = .ok (.iload_n 1, 1) := by decide +kernel
theorem dX8_person_89 : decode cX8_person 89 = .ok (.invokestatic 128, 3) := by decide +kernel
theorem dX8_person_92 : decode cX8_person 92 = .ok (.ifCond .eq 7, 3) := by decide +kernel
theorem dX8_person_95 : decode cX8_person 95 = .ok (.iconst 1, 1) := by decide +kernel
theorem dX8_person_96 : decode cX8_person 96 = .ok (.goto 4, 3) := by decide +kernel
theorem dX8_person_99 : decode cX8_person 99 = .ok (.iconst 0, 1) := by decide +kernel
theorem dX8_person_100 : decode cX8_person 100 = .ok (.ireturn, 1) := by decide +kernel
theorem dX8_person_101 : decode cX8_person 101 = .ok (.iconst (-1), 1) := by decide +kernel
theorem dX8_person_102 : decode cX8_person 102 = .ok (.ireturn, 1) := by decide +kernel
set_option maxRecDepth 20000 in
theorem ggX8_work_X8_isWork : GoodIn wsX8_work wsX8_isWork := goodIn_r _ [7, 1, 8, 9, 6, 10, 11, 12, 13, 14, 15, 16, 17, 18, 19, 20, 21, 22, 23, 24, 25, 26, 27, 28, 29] (by decide +kernel) (by decide +kernel)
set_option maxRecDepth 20000 in
theorem gX8_work_X8_isWork : GoodIn wsX8_work (wsV RX8 132 RX8 yX8_isWork wsX8_isWork) := goodIn_app (goodIn_of _ (by decide +kernel)) ggX8_work_X8_isWork
theorem dX8_work_0 : decode cX8_work 0 = .ok (.aload_n 0, 1) := by decide +kernel
theorem dX8_work_1 : decode cX8_work 1 = .ok (.iload_n 1, 1) := by decide +kernel
theorem dX8_work_2 : decode cX8_work 2 = .ok (.invokevirtual 132, 3) := by decide +kernel
theorem dX8_work_5 : decode cX8_work 5 = .ok (.ifCond .ne 5, 3) := by decide +kernel
theorem dX8_work_8 : decode cX8_work 8 = .ok (.iconst (-1), 1) := by decide +kernel
theorem dX8_work_9 : decode cX8_work 9 = .ok (.ireturn, 1) := by decide +kernel
theorem dX8_work_10 : decode cX8_work 10 = .ok (.iload_n 2, 1) := by decide +kernel
theorem dX8_work_11 : decode cX8_work 11 = .ok (.tableswitch 56 0 2 #[25, 35, 45], 25) := by decide +kernel
theorem dX8_work_36 : decode cX8_work 36 = .ok (.aload_n 0, 1) := by decide +kernel
theorem dX8_work_37 : decode cX8_work 37 = .ok (.getfield 22, 3) := by decide +kernel
theorem dX8_work_40 : decode cX8_work 40 = .ok (.bipush 10, 2) := by decide +kernel
theorem dX8_work_42 : decode cX8_work 42 = .ok (.iload_n 1, 1) := by decide +kernel
theorem dX8_work_43 : decode cX8_work 43 = .ok (.iadd, 1) := by decide +kernel
theorem dX8_work_44 : decode cX8_work 44 = .ok (.iaload, 1) := by decide +kernel
theorem dX8_work_45 : decode cX8_work 45 = .ok (.ireturn, 1) := by decide +kernel
theorem dX8_work_46 : decode cX8_work 46 = .ok (.aload_n 0, 1) := by decide +kernel
theorem dX8_work_47 : decode cX8_work 47 = .ok (.getfield 22, 3) := by decide +kernel
theorem dX8_work_50 : decode cX8_work 50 = .ok (.bipush 16, 2) := by decide +kernel
theorem dX8_work_52 : decode cX8_work 52 = .ok (.iload_n 1, 1) := by decide +kernel
theorem dX8_work_53 : decode cX8_work 53 = .ok (.iadd, 1) := by decide +kernel
theorem dX8_work_54 : decode cX8_work 54 = .ok (.iaload, 1) := by decide +kernel
theorem dX8_work_55 : decode cX8_work 55 = .ok (.ireturn, 1) := by decide +kernel
theorem dX8_work_56 : decode cX8_work 56 = .ok (.aload_n 0, 1) := by decide +kernel
theorem dX8_work_57 : decode cX8_work 57 = .ok (.getfield 25, 3) := by decide +kernel
theorem dX8_work_60 : decode cX8_work 60 = .ok (.iconst 2, 1) := by decide +kernel
theorem dX8_work_61 : decode cX8_work 61 = .ok (.iaload, 1) := by decide +kernel
theorem dX8_work_62 : decode cX8_work 62 = .ok (.iload_n 1, 1) := by decide +kernel
theorem dX8_work_63 : decode cX8_work 63 = .ok (.ishr, 1) := by decide +kernel
theorem dX8_work_64 : decode cX8_work 64 = .ok (.iconst 1, 1) := by decide +kernel
theorem dX8_work_65 : decode cX8_work 65 = .ok (.iand, 1) := by decide +kernel
theorem dX8_work_66 : decode cX8_work 66 = .ok (.ireturn, 1) := by decide +kernel
theorem dX8_work_67 : decode cX8_work 67 = .ok (.iconst (-1), 1) := by decide +kernel
theorem dX8_work_68 : decode cX8_work 68 = .ok (.ireturn, 1) := by decide +kernel
set_option maxRecDepth 20000 in
theorem ggX8_takes_X8_has : GoodIn wsX8_takes wsX8_has := goodIn_r _ [4] (by decide +kernel) (by decide +kernel)
set_option maxRecDepth 20000 in
theorem gX8_takes_X8_has : GoodIn wsX8_takes (va_wsS RX8 135 yX8_has wsX8_has) := goodIn_app (goodIn_of _ (by decide +kernel)) ggX8_takes_X8_has
set_option maxRecDepth 20000 in
theorem ggX8_takes_X8_under : GoodIn wsX8_takes wsX8_under := goodIn_r _ [8, 9, 10, 11, 12, 13, 14, 15, 16, 17, 18, 19, 20, 21, 22, 23, 24, 25, 26, 27, 28] (by decide +kernel) (by decide +kernel)
set_option maxRecDepth 20000 in
theorem gX8_takes_X8_under : GoodIn wsX8_takes (wsV RX8 115 RX8 yX8_under wsX8_under) := goodIn_app (goodIn_of _ (by decide +kernel)) ggX8_takes_X8_under
theorem dX8_takes_0 : decode cX8_takes 0 = .ok (.aload_n 1, 1) := by decide +kernel
theorem dX8_takes_1 : decode cX8_takes 1 = .ok (.iconst 3, 1) := by decide +kernel
theorem dX8_takes_2 : decode cX8_takes 2 = .ok (.iaload, 1) := by decide +kernel
theorem dX8_takes_3 : decode cX8_takes 3 = .ok (.iload_n 2, 1) := by decide +kernel
theorem dX8_takes_4 : decode cX8_takes 4 = .ok (.invokestatic 135, 3) := by decide +kernel
theorem dX8_takes_7 : decode cX8_takes 7 = .ok (.ifCond .ne 32, 3) := by decide +kernel
theorem dX8_takes_10 : decode cX8_takes 10 = .ok (.aload_n 1, 1) := by decide +kernel
theorem dX8_takes_11 : decode cX8_takes 11 = .ok (.bipush 16, 2) := by decide +kernel
theorem dX8_takes_13 : decode cX8_takes 13 = .ok (.iload_n 2, 1) := by decide +kernel
theorem dX8_takes_14 : decode cX8_takes 14 = .ok (.iadd, 1) := by decide +kernel
theorem dX8_takes_15 : decode cX8_takes 15 = .ok (.iaload, 1) := by decide +kernel
theorem dX8_takes_16 : decode cX8_takes 16 = .ok (.ifCond .ne 23, 3) := by decide +kernel
theorem dX8_takes_19 : decode cX8_takes 19 = .ok (.aload_n 1, 1) := by decide +kernel
theorem dX8_takes_20 : decode cX8_takes 20 = .ok (.bipush 21, 2) := by decide +kernel
theorem dX8_takes_22 : decode cX8_takes 22 = .ok (.iload_n 2, 1) := by decide +kernel
theorem dX8_takes_23 : decode cX8_takes 23 = .ok (.iadd, 1) := by decide +kernel
theorem dX8_takes_24 : decode cX8_takes 24 = .ok (.iaload, 1) := by decide +kernel
theorem dX8_takes_25 : decode cX8_takes 25 = .ok (.bipush (-4), 2) := by decide +kernel
theorem dX8_takes_27 : decode cX8_takes 27 = .ok (.if_icmp .ne 12, 3) := by decide +kernel
theorem dX8_takes_30 : decode cX8_takes 30 = .ok (.aload_n 0, 1) := by decide +kernel
theorem dX8_takes_31 : decode cX8_takes 31 = .ok (.aload_n 1, 1) := by decide +kernel
theorem dX8_takes_32 : decode cX8_takes 32 = .ok (.iload_n 3, 1) := by decide +kernel
theorem dX8_takes_33 : decode cX8_takes 33 = .ok (.invokevirtual 115, 3) := by decide +kernel
theorem dX8_takes_36 : decode cX8_takes 36 = .ok (.ifCond .eq 5, 3) := by decide +kernel
theorem dX8_takes_39 : decode cX8_takes 39 = .ok (.iconst 0, 1) := by decide +kernel
theorem dX8_takes_40 : decode cX8_takes 40 = .ok (.ireturn, 1) := by decide +kernel
theorem dX8_takes_41 : decode cX8_takes 41 = .ok (.aload_n 1, 1) := by decide +kernel
theorem dX8_takes_42 : decode cX8_takes 42 = .ok (.bipush 21, 2) := by decide +kernel
theorem dX8_takes_44 : decode cX8_takes 44 = .ok (.iload_n 2, 1) := by decide +kernel
theorem dX8_takes_45 : decode cX8_takes 45 = .ok (.iadd, 1) := by decide +kernel
theorem dX8_takes_46 : decode cX8_takes 46 = .ok (.iload_n 3, 1) := by decide +kernel
theorem dX8_takes_47 : decode cX8_takes 47 = .ok (.iastore, 1) := by decide +kernel
theorem dX8_takes_48 : decode cX8_takes 48 = .ok (.iconst 1, 1) := by decide +kernel
theorem dX8_takes_49 : decode cX8_takes 49 = .ok (.ireturn, 1) := by decide +kernel
set_option maxRecDepth 20000 in
theorem ggX8_shares_X8_under : GoodIn wsX8_shares wsX8_under := goodIn_r _ [5, 6, 10, 11, 12, 13, 14, 15, 16, 17, 18, 19, 20, 21, 22, 23, 24, 25, 26, 27, 28] (by decide +kernel) (by decide +kernel)
set_option maxRecDepth 20000 in
theorem gX8_shares_X8_under : GoodIn wsX8_shares (wsV RX8 115 RX8 yX8_under wsX8_under) := goodIn_app (goodIn_of _ (by decide +kernel)) ggX8_shares_X8_under
set_option maxRecDepth 20000 in
theorem ggX8_shares_X8_bits : GoodIn wsX8_shares wsX8_bits := goodIn_r _ [9] (by decide +kernel) (by decide +kernel)
set_option maxRecDepth 20000 in
theorem gX8_shares_X8_bits : GoodIn wsX8_shares (va_wsS RX8 139 yX8_bits wsX8_bits) := goodIn_app (goodIn_of _ (by decide +kernel)) ggX8_shares_X8_bits
theorem dX8_shares_0 : decode cX8_shares 0 = .ok (.aload_n 1, 1) := by decide +kernel
theorem dX8_shares_1 : decode cX8_shares 1 = .ok (.bipush 21, 2) := by decide +kernel
theorem dX8_shares_3 : decode cX8_shares 3 = .ok (.iload_n 3, 1) := by decide +kernel
theorem dX8_shares_4 : decode cX8_shares 4 = .ok (.iadd, 1) := by decide +kernel
theorem dX8_shares_5 : decode cX8_shares 5 = .ok (.iaload, 1) := by decide +kernel
theorem dX8_shares_6 : decode cX8_shares 6 = .ok (.istore 4, 2) := by decide +kernel
theorem dX8_shares_8 : decode cX8_shares 8 = .ok (.iload_n 2, 1) := by decide +kernel
theorem dX8_shares_9 : decode cX8_shares 9 = .ok (.iload_n 3, 1) := by decide +kernel
theorem dX8_shares_10 : decode cX8_shares 10 = .ok (.if_icmp .eq 50, 3) := by decide +kernel
theorem dX8_shares_13 : decode cX8_shares 13 = .ok (.aload_n 1, 1) := by decide +kernel
theorem dX8_shares_14 : decode cX8_shares 14 = .ok (.bipush 21, 2) := by decide +kernel
theorem dX8_shares_16 : decode cX8_shares 16 = .ok (.iload_n 2, 1) := by decide +kernel
theorem dX8_shares_17 : decode cX8_shares 17 = .ok (.iadd, 1) := by decide +kernel
theorem dX8_shares_18 : decode cX8_shares 18 = .ok (.iaload, 1) := by decide +kernel
theorem dX8_shares_19 : decode cX8_shares 19 = .ok (.bipush (-4), 2) := by decide +kernel
theorem dX8_shares_21 : decode cX8_shares 21 = .ok (.if_icmp .ne 39, 3) := by decide +kernel
theorem dX8_shares_24 : decode cX8_shares 24 = .ok (.iload 4, 2) := by decide +kernel
theorem dX8_shares_26 : decode cX8_shares 26 = .ok (.bipush (-4), 2) := by decide +kernel
theorem dX8_shares_28 : decode cX8_shares 28 = .ok (.if_icmp .eq 32, 3) := by decide +kernel
theorem dX8_shares_31 : decode cX8_shares 31 = .ok (.aload_n 1, 1) := by decide +kernel
theorem dX8_shares_32 : decode cX8_shares 32 = .ok (.bipush 16, 2) := by decide +kernel
theorem dX8_shares_34 : decode cX8_shares 34 = .ok (.iload_n 2, 1) := by decide +kernel
theorem dX8_shares_35 : decode cX8_shares 35 = .ok (.iadd, 1) := by decide +kernel
theorem dX8_shares_36 : decode cX8_shares 36 = .ok (.iaload, 1) := by decide +kernel
theorem dX8_shares_37 : decode cX8_shares 37 = .ok (.aload_n 1, 1) := by decide +kernel
theorem dX8_shares_38 : decode cX8_shares 38 = .ok (.bipush 16, 2) := by decide +kernel
theorem dX8_shares_40 : decode cX8_shares 40 = .ok (.iload_n 3, 1) := by decide +kernel
theorem dX8_shares_41 : decode cX8_shares 41 = .ok (.iadd, 1) := by decide +kernel
theorem dX8_shares_42 : decode cX8_shares 42 = .ok (.iaload, 1) := by decide +kernel
theorem dX8_shares_43 : decode cX8_shares 43 = .ok (.if_icmp .ne 17, 3) := by decide +kernel
theorem dX8_shares_46 : decode cX8_shares 46 = .ok (.aload_n 0, 1) := by decide +kernel
theorem dX8_shares_47 : decode cX8_shares 47 = .ok (.aload_n 1, 1) := by decide +kernel
theorem dX8_shares_48 : decode cX8_shares 48 = .ok (.iload 4, 2) := by decide +kernel
theorem dX8_shares_50 : decode cX8_shares 50 = .ok (.invokevirtual 115, 3) := by decide +kernel
theorem dX8_shares_53 : decode cX8_shares 53 = .ok (.invokestatic 139, 3) := by decide +kernel
theorem dX8_shares_56 : decode cX8_shares 56 = .ok (.iconst 1, 1) := by decide +kernel
theorem dX8_shares_57 : decode cX8_shares 57 = .ok (.if_icmp .le 5, 3) := by decide +kernel
theorem dX8_shares_60 : decode cX8_shares 60 = .ok (.iconst 0, 1) := by decide +kernel
theorem dX8_shares_61 : decode cX8_shares 61 = .ok (.ireturn, 1) := by decide +kernel
theorem dX8_shares_62 : decode cX8_shares 62 = .ok (.aload_n 1, 1) := by decide +kernel
theorem dX8_shares_63 : decode cX8_shares 63 = .ok (.bipush 21, 2) := by decide +kernel
theorem dX8_shares_65 : decode cX8_shares 65 = .ok (.iload_n 2, 1) := by decide +kernel
theorem dX8_shares_66 : decode cX8_shares 66 = .ok (.iadd, 1) := by decide +kernel
theorem dX8_shares_67 : decode cX8_shares 67 = .ok (.iload 4, 2) := by decide +kernel
theorem dX8_shares_69 : decode cX8_shares 69 = .ok (.iastore, 1) := by decide +kernel
theorem dX8_shares_70 : decode cX8_shares 70 = .ok (.aload_n 1, 1) := by decide +kernel
theorem dX8_shares_71 : decode cX8_shares 71 = .ok (.iconst 3, 1) := by decide +kernel
theorem dX8_shares_72 : decode cX8_shares 72 = .ok (.dup2, 1) := by decide +kernel
theorem dX8_shares_73 : decode cX8_shares 73 = .ok (.iaload, 1) := by decide +kernel
theorem dX8_shares_74 : decode cX8_shares 74 = .ok (.iconst 1, 1) := by decide +kernel
theorem dX8_shares_75 : decode cX8_shares 75 = .ok (.iload_n 2, 1) := by decide +kernel
theorem dX8_shares_76 : decode cX8_shares 76 = .ok (.ishl, 1) := by decide +kernel
theorem dX8_shares_77 : decode cX8_shares 77 = .ok (.iconst (-1), 1) := by decide +kernel
theorem dX8_shares_78 : decode cX8_shares 78 = .ok (.ixor, 1) := by decide +kernel
theorem dX8_shares_79 : decode cX8_shares 79 = .ok (.iand, 1) := by decide +kernel
theorem dX8_shares_80 : decode cX8_shares 80 = .ok (.iastore, 1) := by decide +kernel
theorem dX8_shares_81 : decode cX8_shares 81 = .ok (.iconst 1, 1) := by decide +kernel
theorem dX8_shares_82 : decode cX8_shares 82 = .ok (.ireturn, 1) := by decide +kernel
set_option maxRecDepth 20000 in
theorem ggX8_gives_X8_under : GoodIn wsX8_gives wsX8_under := goodIn_r _ [5, 6, 10, 11, 12, 13, 14, 15, 16, 17, 18, 19, 20, 21, 22, 23, 24, 25, 26, 27, 28] (by decide +kernel) (by decide +kernel)
set_option maxRecDepth 20000 in
theorem gX8_gives_X8_under : GoodIn wsX8_gives (wsV RX8 115 RX8 yX8_under wsX8_under) := goodIn_app (goodIn_of _ (by decide +kernel)) ggX8_gives_X8_under
set_option maxRecDepth 20000 in
theorem ggX8_gives_X8_bits : GoodIn wsX8_gives wsX8_bits := goodIn_r _ [9] (by decide +kernel) (by decide +kernel)
set_option maxRecDepth 20000 in
theorem gX8_gives_X8_bits : GoodIn wsX8_gives (va_wsS RX8 139 yX8_bits wsX8_bits) := goodIn_app (goodIn_of _ (by decide +kernel)) ggX8_gives_X8_bits
theorem dX8_gives_0 : decode cX8_gives 0 = .ok (.aload_n 1, 1) := by decide +kernel
theorem dX8_gives_1 : decode cX8_gives 1 = .ok (.bipush 21, 2) := by decide +kernel
theorem dX8_gives_3 : decode cX8_gives 3 = .ok (.iload_n 2, 1) := by decide +kernel
theorem dX8_gives_4 : decode cX8_gives 4 = .ok (.iadd, 1) := by decide +kernel
theorem dX8_gives_5 : decode cX8_gives 5 = .ok (.iaload, 1) := by decide +kernel
theorem dX8_gives_6 : decode cX8_gives 6 = .ok (.istore_n 3, 1) := by decide +kernel
theorem dX8_gives_7 : decode cX8_gives 7 = .ok (.iload_n 3, 1) := by decide +kernel
theorem dX8_gives_8 : decode cX8_gives 8 = .ok (.bipush (-4), 2) := by decide +kernel
theorem dX8_gives_10 : decode cX8_gives 10 = .ok (.if_icmp .eq 25, 3) := by decide +kernel
theorem dX8_gives_13 : decode cX8_gives 13 = .ok (.aload_n 1, 1) := by decide +kernel
theorem dX8_gives_14 : decode cX8_gives 14 = .ok (.bipush 16, 2) := by decide +kernel
theorem dX8_gives_16 : decode cX8_gives 16 = .ok (.iload_n 2, 1) := by decide +kernel
theorem dX8_gives_17 : decode cX8_gives 17 = .ok (.iadd, 1) := by decide +kernel
theorem dX8_gives_18 : decode cX8_gives 18 = .ok (.iaload, 1) := by decide +kernel
theorem dX8_gives_19 : decode cX8_gives 19 = .ok (.ifCond .eq 18, 3) := by decide +kernel
theorem dX8_gives_22 : decode cX8_gives 22 = .ok (.aload_n 0, 1) := by decide +kernel
theorem dX8_gives_23 : decode cX8_gives 23 = .ok (.aload_n 1, 1) := by decide +kernel
theorem dX8_gives_24 : decode cX8_gives 24 = .ok (.iload_n 3, 1) := by decide +kernel
theorem dX8_gives_25 : decode cX8_gives 25 = .ok (.invokevirtual 115, 3) := by decide +kernel
theorem dX8_gives_28 : decode cX8_gives 28 = .ok (.invokestatic 139, 3) := by decide +kernel
theorem dX8_gives_31 : decode cX8_gives 31 = .ok (.iconst 1, 1) := by decide +kernel
theorem dX8_gives_32 : decode cX8_gives 32 = .ok (.if_icmp .ne 5, 3) := by decide +kernel
theorem dX8_gives_35 : decode cX8_gives 35 = .ok (.iconst 0, 1) := by decide +kernel
theorem dX8_gives_36 : decode cX8_gives 36 = .ok (.ireturn, 1) := by decide +kernel
theorem dX8_gives_37 : decode cX8_gives 37 = .ok (.aload_n 1, 1) := by decide +kernel
theorem dX8_gives_38 : decode cX8_gives 38 = .ok (.bipush 21, 2) := by decide +kernel
theorem dX8_gives_40 : decode cX8_gives 40 = .ok (.iload_n 2, 1) := by decide +kernel
theorem dX8_gives_41 : decode cX8_gives 41 = .ok (.iadd, 1) := by decide +kernel
theorem dX8_gives_42 : decode cX8_gives 42 = .ok (.bipush (-4), 2) := by decide +kernel
theorem dX8_gives_44 : decode cX8_gives 44 = .ok (.iastore, 1) := by decide +kernel
theorem dX8_gives_45 : decode cX8_gives 45 = .ok (.iconst 1, 1) := by decide +kernel
theorem dX8_gives_46 : decode cX8_gives 46 = .ok (.ireturn, 1) := by decide +kernel
set_option maxRecDepth 20000 in
theorem ggX8_walks_X8_has : GoodIn wsX8_walks wsX8_has := goodIn_r _ [5] (by decide +kernel) (by decide +kernel)
set_option maxRecDepth 20000 in
theorem gX8_walks_X8_has : GoodIn wsX8_walks (va_wsS RX8 135 yX8_has wsX8_has) := goodIn_app (goodIn_of _ (by decide +kernel)) ggX8_walks_X8_has
set_option maxRecDepth 20000 in
theorem ggX8_walks_X8_in : GoodIn wsX8_walks wsX8_in := goodIn_r _ [8] (by decide +kernel) (by decide +kernel)
set_option maxRecDepth 20000 in
theorem gX8_walks_X8_in : GoodIn wsX8_walks (va_wsS RX8 57 yX8_in wsX8_in) := goodIn_app (goodIn_of _ (by decide +kernel)) ggX8_walks_X8_in
theorem dX8_walks_0 : decode cX8_walks 0 = .ok (.aload_n 1, 1) := by decide +kernel
theorem dX8_walks_1 : decode cX8_walks 1 = .ok (.bipush 16, 2) := by decide +kernel
theorem dX8_walks_3 : decode cX8_walks 3 = .ok (.iload_n 2, 1) := by decide +kernel
theorem dX8_walks_4 : decode cX8_walks 4 = .ok (.iadd, 1) := by decide +kernel
theorem dX8_walks_5 : decode cX8_walks 5 = .ok (.iaload, 1) := by decide +kernel
theorem dX8_walks_6 : decode cX8_walks 6 = .ok (.iload_n 3, 1) := by decide +kernel
theorem dX8_walks_7 : decode cX8_walks 7 = .ok (.ifCond .ne 7, 3) := by decide +kernel
theorem dX8_walks_10 : decode cX8_walks 10 = .ok (.iconst 1, 1) := by decide +kernel
theorem dX8_walks_11 : decode cX8_walks 11 = .ok (.goto 4, 3) := by decide +kernel
theorem dX8_walks_14 : decode cX8_walks 14 = .ok (.iconst (-1), 1) := by decide +kernel
theorem dX8_walks_15 : decode cX8_walks 15 = .ok (.iadd, 1) := by decide +kernel
theorem dX8_walks_16 : decode cX8_walks 16 = .ok (.istore 4, 2) := by decide +kernel
theorem dX8_walks_18 : decode cX8_walks 18 = .ok (.aload_n 1, 1) := by decide +kernel
theorem dX8_walks_19 : decode cX8_walks 19 = .ok (.iconst 3, 1) := by decide +kernel
theorem dX8_walks_20 : decode cX8_walks 20 = .ok (.iaload, 1) := by decide +kernel
theorem dX8_walks_21 : decode cX8_walks 21 = .ok (.iload_n 2, 1) := by decide +kernel
theorem dX8_walks_22 : decode cX8_walks 22 = .ok (.invokestatic 135, 3) := by decide +kernel
theorem dX8_walks_25 : decode cX8_walks 25 = .ok (.ifCond .ne 20, 3) := by decide +kernel
theorem dX8_walks_28 : decode cX8_walks 28 = .ok (.iload 4, 2) := by decide +kernel
theorem dX8_walks_30 : decode cX8_walks 30 = .ok (.iconst 0, 1) := by decide +kernel
theorem dX8_walks_31 : decode cX8_walks 31 = .ok (.aload_n 0, 1) := by decide +kernel
theorem dX8_walks_32 : decode cX8_walks 32 = .ok (.getfield 22, 3) := by decide +kernel
theorem dX8_walks_35 : decode cX8_walks 35 = .ok (.iconst 0, 1) := by decide +kernel
theorem dX8_walks_36 : decode cX8_walks 36 = .ok (.iaload, 1) := by decide +kernel
theorem dX8_walks_37 : decode cX8_walks 37 = .ok (.iconst 1, 1) := by decide +kernel
theorem dX8_walks_38 : decode cX8_walks 38 = .ok (.isub, 1) := by decide +kernel
theorem dX8_walks_39 : decode cX8_walks 39 = .ok (.invokestatic 57, 3) := by decide +kernel
theorem dX8_walks_42 : decode cX8_walks 42 = .ok (.ifCond .ne 5, 3) := by decide +kernel
theorem dX8_walks_45 : decode cX8_walks 45 = .ok (.iconst 0, 1) := by decide +kernel
theorem dX8_walks_46 : decode cX8_walks 46 = .ok (.ireturn, 1) := by decide +kernel
theorem dX8_walks_47 : decode cX8_walks 47 = .ok (.aload_n 1, 1) := by decide +kernel
theorem dX8_walks_48 : decode cX8_walks 48 = .ok (.bipush 21, 2) := by decide +kernel
theorem dX8_walks_50 : decode cX8_walks 50 = .ok (.iload_n 2, 1) := by decide +kernel
theorem dX8_walks_51 : decode cX8_walks 51 = .ok (.iadd, 1) := by decide +kernel
theorem dX8_walks_52 : decode cX8_walks 52 = .ok (.iaload, 1) := by decide +kernel
theorem dX8_walks_53 : decode cX8_walks 53 = .ok (.istore 5, 2) := by decide +kernel
theorem dX8_walks_55 : decode cX8_walks 55 = .ok (.iconst 0, 1) := by decide +kernel
theorem dX8_walks_56 : decode cX8_walks 56 = .ok (.istore 6, 2) := by decide +kernel
theorem dX8_walks_58 : decode cX8_walks 58 = .ok (.iload 6, 2) := by decide +kernel
theorem dX8_walks_60 : decode cX8_walks 60 = .ok (.aload_n 0, 1) := by decide +kernel
theorem dX8_walks_61 : decode cX8_walks 61 = .ok (.getfield 22, 3) := by decide +kernel
theorem dX8_walks_64 : decode cX8_walks 64 = .ok (.iconst 2, 1) := by decide +kernel
theorem dX8_walks_65 : decode cX8_walks 65 = .ok (.iaload, 1) := by decide +kernel
theorem dX8_walks_66 : decode cX8_walks 66 = .ok (.if_icmp .ge 55, 3) := by decide +kernel
theorem dX8_walks_69 : decode cX8_walks 69 = .ok (.iload 6, 2) := by decide +kernel
theorem dX8_walks_71 : decode cX8_walks 71 = .ok (.iload_n 2, 1) := by decide +kernel
theorem dX8_walks_72 : decode cX8_walks 72 = .ok (.if_icmp .eq 22, 3) := by decide +kernel
theorem dX8_walks_75 : decode cX8_walks 75 = .ok (.iload 5, 2) := by decide +kernel
theorem dX8_walks_77 : decode cX8_walks 77 = .ok (.bipush (-4), 2) := by decide +kernel
theorem dX8_walks_79 : decode cX8_walks 79 = .ok (.if_icmp .eq 36, 3) := by decide +kernel
theorem dX8_walks_82 : decode cX8_walks 82 = .ok (.aload_n 1, 1) := by decide +kernel
theorem dX8_walks_83 : decode cX8_walks 83 = .ok (.bipush 21, 2) := by decide +kernel
theorem dX8_walks_85 : decode cX8_walks 85 = .ok (.iload 6, 2) := by decide +kernel
theorem dX8_walks_87 : decode cX8_walks 87 = .ok (.iadd, 1) := by decide +kernel
theorem dX8_walks_88 : decode cX8_walks 88 = .ok (.iaload, 1) := by decide +kernel
theorem dX8_walks_89 : decode cX8_walks 89 = .ok (.iload 5, 2) := by decide +kernel
theorem dX8_walks_91 : decode cX8_walks 91 = .ok (.if_icmp .ne 24, 3) := by decide +kernel
theorem dX8_walks_94 : decode cX8_walks 94 = .ok (.aload_n 1, 1) := by decide +kernel
theorem dX8_walks_95 : decode cX8_walks 95 = .ok (.bipush 16, 2) := by decide +kernel
theorem dX8_walks_97 : decode cX8_walks 97 = .ok (.iload 6, 2) := by decide +kernel
theorem dX8_walks_99 : decode cX8_walks 99 = .ok (.iadd, 1) := by decide +kernel
theorem dX8_walks_100 : decode cX8_walks 100 = .ok (.iload 4, 2) := by decide +kernel
theorem dX8_walks_102 : decode cX8_walks 102 = .ok (.iastore, 1) := by decide +kernel
theorem dX8_walks_103 : decode cX8_walks 103 = .ok (.aload_n 1, 1) := by decide +kernel
theorem dX8_walks_104 : decode cX8_walks 104 = .ok (.iconst 3, 1) := by decide +kernel
theorem dX8_walks_105 : decode cX8_walks 105 = .ok (.dup2, 1) := by decide +kernel
theorem dX8_walks_106 : decode cX8_walks 106 = .ok (.iaload, 1) := by decide +kernel
theorem dX8_walks_107 : decode cX8_walks 107 = .ok (.iconst 1, 1) := by decide +kernel
theorem dX8_walks_108 : decode cX8_walks 108 = .ok (.iload 6, 2) := by decide +kernel
theorem dX8_walks_110 : decode cX8_walks 110 = .ok (.ishl, 1) := by decide +kernel
theorem dX8_walks_111 : decode cX8_walks 111 = .ok (.iconst (-1), 1) := by decide +kernel
theorem dX8_walks_112 : decode cX8_walks 112 = .ok (.ixor, 1) := by decide +kernel
theorem dX8_walks_113 : decode cX8_walks 113 = .ok (.iand, 1) := by decide +kernel
theorem dX8_walks_114 : decode cX8_walks 114 = .ok (.iastore, 1) := by decide +kernel
theorem dX8_walks_115 : decode cX8_walks 115 = .ok (.iinc 6 1, 3) := by decide +kernel
theorem dX8_walks_118 : decode cX8_walks 118 = .ok (.goto (-60), 3) := by decide +kernel
theorem dX8_walks_121 : decode cX8_walks 121 = .ok (.iconst 1, 1) := by decide +kernel
theorem dX8_walks_122 : decode cX8_walks 122 = .ok (.ireturn, 1) := by decide +kernel
set_option maxRecDepth 20000 in
theorem ggX8_mends_X8_under : GoodIn wsX8_mends wsX8_under := goodIn_r _ [5, 6, 7, 8, 9, 10, 11, 12, 13, 14, 15, 16, 17, 18, 19, 20, 21, 22, 23, 24, 25] (by decide +kernel) (by decide +kernel)
set_option maxRecDepth 20000 in
theorem gX8_mends_X8_under : GoodIn wsX8_mends (wsV RX8 115 RX8 yX8_under wsX8_under) := goodIn_app (goodIn_of _ (by decide +kernel)) ggX8_mends_X8_under
theorem dX8_mends_0 : decode cX8_mends 0 = .ok (.aload_n 0, 1) := by decide +kernel
theorem dX8_mends_1 : decode cX8_mends 1 = .ok (.aload_n 1, 1) := by decide +kernel
theorem dX8_mends_2 : decode cX8_mends 2 = .ok (.iload_n 2, 1) := by decide +kernel
theorem dX8_mends_3 : decode cX8_mends 3 = .ok (.invokevirtual 115, 3) := by decide +kernel
theorem dX8_mends_6 : decode cX8_mends 6 = .ok (.ifCond .eq 5, 3) := by decide +kernel
theorem dX8_mends_9 : decode cX8_mends 9 = .ok (.iconst 0, 1) := by decide +kernel
theorem dX8_mends_10 : decode cX8_mends 10 = .ok (.ireturn, 1) := by decide +kernel
theorem dX8_mends_11 : decode cX8_mends 11 = .ok (.aload_n 1, 1) := by decide +kernel
theorem dX8_mends_12 : decode cX8_mends 12 = .ok (.bipush 10, 2) := by decide +kernel
theorem dX8_mends_14 : decode cX8_mends 14 = .ok (.iload_n 2, 1) := by decide +kernel
theorem dX8_mends_15 : decode cX8_mends 15 = .ok (.iadd, 1) := by decide +kernel
theorem dX8_mends_16 : decode cX8_mends 16 = .ok (.iconst 0, 1) := by decide +kernel
theorem dX8_mends_17 : decode cX8_mends 17 = .ok (.iastore, 1) := by decide +kernel
theorem dX8_mends_18 : decode cX8_mends 18 = .ok (.iconst 1, 1) := by decide +kernel
theorem dX8_mends_19 : decode cX8_mends 19 = .ok (.ireturn, 1) := by decide +kernel
set_option maxRecDepth 20000 in
theorem ggX8_isDone_X8_has : GoodIn wsX8_isDone wsX8_has := goodIn_r _ [5] (by decide +kernel) (by decide +kernel)
set_option maxRecDepth 20000 in
theorem gX8_isDone_X8_has : GoodIn wsX8_isDone (va_wsS RX8 135 yX8_has wsX8_has) := goodIn_app (goodIn_of _ (by decide +kernel)) ggX8_isDone_X8_has
set_option maxRecDepth 20000 in
theorem ggX8_isDone_X8_time : GoodIn wsX8_isDone wsX8_time := goodIn_r _ [8, 9, 10, 4, 11] (by decide +kernel) (by decide +kernel)
set_option maxRecDepth 20000 in
theorem gX8_isDone_X8_time : GoodIn wsX8_isDone (va_wsS RX8 125 yX8_time wsX8_time) := goodIn_app (goodIn_of _ (by decide +kernel)) ggX8_isDone_X8_time
theorem dX8_isDone_0 : decode cX8_isDone 0 = .ok (.aload_n 1, 1) := by decide +kernel
theorem dX8_isDone_1 : decode cX8_isDone 1 = .ok (.iconst 2, 1) := by decide +kernel
theorem dX8_isDone_2 : decode cX8_isDone 2 = .ok (.iaload, 1) := by decide +kernel
theorem dX8_isDone_3 : decode cX8_isDone 3 = .ok (.iload_n 2, 1) := by decide +kernel
theorem dX8_isDone_4 : decode cX8_isDone 4 = .ok (.invokestatic 135, 3) := by decide +kernel
theorem dX8_isDone_7 : decode cX8_isDone 7 = .ok (.istore_n 3, 1) := by decide +kernel
theorem dX8_isDone_8 : decode cX8_isDone 8 = .ok (.iconst 0, 1) := by decide +kernel
theorem dX8_isDone_9 : decode cX8_isDone 9 = .ok (.istore 4, 2) := by decide +kernel
theorem dX8_isDone_11 : decode cX8_isDone 11 = .ok (.iload 4, 2) := by decide +kernel
theorem dX8_isDone_13 : decode cX8_isDone 13 = .ok (.aload_n 0, 1) := by decide +kernel
theorem dX8_isDone_14 : decode cX8_isDone 14 = .ok (.getfield 22, 3) := by decide +kernel
theorem dX8_isDone_17 : decode cX8_isDone 17 = .ok (.iconst 2, 1) := by decide +kernel
theorem dX8_isDone_18 : decode cX8_isDone 18 = .ok (.iaload, 1) := by decide +kernel
theorem dX8_isDone_19 : decode cX8_isDone 19 = .ok (.if_icmp .ge 67, 3) := by decide +kernel
theorem dX8_isDone_22 : decode cX8_isDone 22 = .ok (.iload_n 3, 1) := by decide +kernel
theorem dX8_isDone_23 : decode cX8_isDone 23 = .ok (.ifCond .ne 51, 3) := by decide +kernel
theorem dX8_isDone_26 : decode cX8_isDone 26 = .ok (.aload_n 1, 1) := by decide +kernel
theorem dX8_isDone_27 : decode cX8_isDone 27 = .ok (.iconst 3, 1) := by decide +kernel
theorem dX8_isDone_28 : decode cX8_isDone 28 = .ok (.iaload, 1) := by decide +kernel
theorem dX8_isDone_29 : decode cX8_isDone 29 = .ok (.iload 4, 2) := by decide +kernel
theorem dX8_isDone_31 : decode cX8_isDone 31 = .ok (.invokestatic 135, 3) := by decide +kernel
theorem dX8_isDone_34 : decode cX8_isDone 34 = .ok (.ifCond .ne 44, 3) := by decide +kernel
theorem dX8_isDone_37 : decode cX8_isDone 37 = .ok (.aload_n 1, 1) := by decide +kernel
theorem dX8_isDone_38 : decode cX8_isDone 38 = .ok (.bipush 16, 2) := by decide +kernel
theorem dX8_isDone_40 : decode cX8_isDone 40 = .ok (.iload 4, 2) := by decide +kernel
theorem dX8_isDone_42 : decode cX8_isDone 42 = .ok (.iadd, 1) := by decide +kernel
theorem dX8_isDone_43 : decode cX8_isDone 43 = .ok (.iaload, 1) := by decide +kernel
theorem dX8_isDone_44 : decode cX8_isDone 44 = .ok (.aload_n 0, 1) := by decide +kernel
theorem dX8_isDone_45 : decode cX8_isDone 45 = .ok (.getfield 22, 3) := by decide +kernel
theorem dX8_isDone_48 : decode cX8_isDone 48 = .ok (.bipush 10, 2) := by decide +kernel
theorem dX8_isDone_50 : decode cX8_isDone 50 = .ok (.iload_n 2, 1) := by decide +kernel
theorem dX8_isDone_51 : decode cX8_isDone 51 = .ok (.iadd, 1) := by decide +kernel
theorem dX8_isDone_52 : decode cX8_isDone 52 = .ok (.iaload, 1) := by decide +kernel
theorem dX8_isDone_53 : decode cX8_isDone 53 = .ok (.if_icmp .ne 25, 3) := by decide +kernel
theorem dX8_isDone_56 : decode cX8_isDone 56 = .ok (.aload_n 1, 1) := by decide +kernel
theorem dX8_isDone_57 : decode cX8_isDone 57 = .ok (.iload 4, 2) := by decide +kernel
theorem dX8_isDone_59 : decode cX8_isDone 59 = .ok (.invokestatic 125, 3) := by decide +kernel
theorem dX8_isDone_62 : decode cX8_isDone 62 = .ok (.aload_n 0, 1) := by decide +kernel
theorem dX8_isDone_63 : decode cX8_isDone 63 = .ok (.getfield 22, 3) := by decide +kernel
theorem dX8_isDone_66 : decode cX8_isDone 66 = .ok (.bipush 16, 2) := by decide +kernel
theorem dX8_isDone_68 : decode cX8_isDone 68 = .ok (.iload_n 2, 1) := by decide +kernel
theorem dX8_isDone_69 : decode cX8_isDone 69 = .ok (.iadd, 1) := by decide +kernel
theorem dX8_isDone_70 : decode cX8_isDone 70 = .ok (.iaload, 1) := by decide +kernel
theorem dX8_isDone_71 : decode cX8_isDone 71 = .ok (.if_icmp .ne 7, 3) := by decide +kernel
theorem dX8_isDone_74 : decode cX8_isDone 74 = .ok (.iconst 1, 1) := by decide +kernel
theorem dX8_isDone_75 : decode cX8_isDone 75 = .ok (.goto 4, 3) := by decide +kernel
theorem dX8_isDone_78 : decode cX8_isDone 78 = .ok (.iconst 0, 1) := by decide +kernel
theorem dX8_isDone_79 : decode cX8_isDone 79 = .ok (.istore_n 3, 1) := by decide +kernel
theorem dX8_isDone_80 : decode cX8_isDone 80 = .ok (.iinc 4 1, 3) := by decide +kernel
theorem dX8_isDone_83 : decode cX8_isDone 83 = .ok (.goto (-72), 3) := by decide +kernel
theorem dX8_isDone_86 : decode cX8_isDone 86 = .ok (.iload_n 3, 1) := by decide +kernel
theorem dX8_isDone_87 : decode cX8_isDone 87 = .ok (.ireturn, 1) := by decide +kernel
set_option maxRecDepth 20000 in
theorem ggX8_meetings_X8_under : GoodIn wsX8_meetings wsX8_under := goodIn_r _ [6, 1, 11, 12, 13, 14, 15, 16, 17, 18, 19, 20, 21, 22, 23, 24, 25, 26, 27, 28, 29] (by decide +kernel) (by decide +kernel)
set_option maxRecDepth 20000 in
theorem gX8_meetings_X8_under : GoodIn wsX8_meetings (wsV RX8 115 RX8 yX8_under wsX8_under) := goodIn_app (goodIn_of _ (by decide +kernel)) ggX8_meetings_X8_under
set_option maxRecDepth 20000 in
theorem ggX8_meetings_X8_squareOf : GoodIn wsX8_meetings wsX8_squareOf := goodIn_r _ [10, 1, 11, 12, 13, 14, 15, 16, 17, 18, 19, 20, 21, 22, 23, 24, 25, 26, 27, 28, 29] (by decide +kernel) (by decide +kernel)
set_option maxRecDepth 20000 in
theorem gX8_meetings_X8_squareOf : GoodIn wsX8_meetings (wsV RX8 119 RX8 yX8_squareOf wsX8_squareOf) := goodIn_app (goodIn_of _ (by decide +kernel)) ggX8_meetings_X8_squareOf
theorem dX8_meetings_0 : decode cX8_meetings 0 = .ok (.iconst 0, 1) := by decide +kernel
theorem dX8_meetings_1 : decode cX8_meetings 1 = .ok (.istore_n 2, 1) := by decide +kernel
theorem dX8_meetings_2 : decode cX8_meetings 2 = .ok (.iconst 0, 1) := by decide +kernel
theorem dX8_meetings_3 : decode cX8_meetings 3 = .ok (.istore_n 3, 1) := by decide +kernel
theorem dX8_meetings_4 : decode cX8_meetings 4 = .ok (.iload_n 3, 1) := by decide +kernel
theorem dX8_meetings_5 : decode cX8_meetings 5 = .ok (.aload_n 0, 1) := by decide +kernel
theorem dX8_meetings_6 : decode cX8_meetings 6 = .ok (.getfield 22, 3) := by decide +kernel
theorem dX8_meetings_9 : decode cX8_meetings 9 = .ok (.iconst 1, 1) := by decide +kernel
theorem dX8_meetings_10 : decode cX8_meetings 10 = .ok (.iaload, 1) := by decide +kernel
theorem dX8_meetings_11 : decode cX8_meetings 11 = .ok (.if_icmp .ge 93, 3) := by decide +kernel
theorem dX8_meetings_14 : decode cX8_meetings 14 = .ok (.iconst 0, 1) := by decide +kernel
theorem dX8_meetings_15 : decode cX8_meetings 15 = .ok (.istore 4, 2) := by decide +kernel
theorem dX8_meetings_17 : decode cX8_meetings 17 = .ok (.iload 4, 2) := by decide +kernel
theorem dX8_meetings_19 : decode cX8_meetings 19 = .ok (.iload_n 3, 1) := by decide +kernel
theorem dX8_meetings_20 : decode cX8_meetings 20 = .ok (.if_icmp .ge 78, 3) := by decide +kernel
theorem dX8_meetings_23 : decode cX8_meetings 23 = .ok (.aload_n 0, 1) := by decide +kernel
theorem dX8_meetings_24 : decode cX8_meetings 24 = .ok (.aload_n 1, 1) := by decide +kernel
theorem dX8_meetings_25 : decode cX8_meetings 25 = .ok (.iload_n 3, 1) := by decide +kernel
theorem dX8_meetings_26 : decode cX8_meetings 26 = .ok (.invokevirtual 115, 3) := by decide +kernel
theorem dX8_meetings_29 : decode cX8_meetings 29 = .ok (.ifCond .eq 17, 3) := by decide +kernel
theorem dX8_meetings_32 : decode cX8_meetings 32 = .ok (.aload_n 0, 1) := by decide +kernel
theorem dX8_meetings_33 : decode cX8_meetings 33 = .ok (.aload_n 1, 1) := by decide +kernel
theorem dX8_meetings_34 : decode cX8_meetings 34 = .ok (.iload 4, 2) := by decide +kernel
theorem dX8_meetings_36 : decode cX8_meetings 36 = .ok (.invokevirtual 115, 3) := by decide +kernel
theorem dX8_meetings_39 : decode cX8_meetings 39 = .ok (.ifCond .eq 7, 3) := by decide +kernel
theorem dX8_meetings_42 : decode cX8_meetings 42 = .ok (.iconst 1, 1) := by decide +kernel
theorem dX8_meetings_43 : decode cX8_meetings 43 = .ok (.goto 4, 3) := by decide +kernel
theorem dX8_meetings_46 : decode cX8_meetings 46 = .ok (.iconst 0, 1) := by decide +kernel
theorem dX8_meetings_47 : decode cX8_meetings 47 = .ok (.istore 5, 2) := by decide +kernel
theorem dX8_meetings_49 : decode cX8_meetings 49 = .ok (.iload_n 2, 1) := by decide +kernel
theorem dX8_meetings_50 : decode cX8_meetings 50 = .ok (.iload 5, 2) := by decide +kernel
theorem dX8_meetings_52 : decode cX8_meetings 52 = .ok (.ifCond .eq 37, 3) := by decide +kernel
theorem dX8_meetings_55 : decode cX8_meetings 55 = .ok (.aload_n 0, 1) := by decide +kernel
theorem dX8_meetings_56 : decode cX8_meetings 56 = .ok (.aload_n 1, 1) := by decide +kernel
theorem dX8_meetings_57 : decode cX8_meetings 57 = .ok (.iload_n 3, 1) := by decide +kernel
theorem dX8_meetings_58 : decode cX8_meetings 58 = .ok (.invokevirtual 119, 3) := by decide +kernel
theorem dX8_meetings_61 : decode cX8_meetings 61 = .ok (.aload_n 0, 1) := by decide +kernel
theorem dX8_meetings_62 : decode cX8_meetings 62 = .ok (.aload_n 1, 1) := by decide +kernel
theorem dX8_meetings_63 : decode cX8_meetings 63 = .ok (.iload 4, 2) := by decide +kernel
theorem dX8_meetings_65 : decode cX8_meetings 65 = .ok (.invokevirtual 119, 3) := by decide +kernel
theorem dX8_meetings_68 : decode cX8_meetings 68 = .ok (.if_icmp .ne 21, 3) := by decide +kernel
theorem dX8_meetings_71 : decode cX8_meetings 71 = .ok (.aload_n 1, 1) := by decide +kernel
theorem dX8_meetings_72 : decode cX8_meetings 72 = .ok (.iconst 4, 1) := by decide +kernel
theorem dX8_meetings_73 : decode cX8_meetings 73 = .ok (.iload_n 3, 1) := by decide +kernel
theorem dX8_meetings_74 : decode cX8_meetings 74 = .ok (.iadd, 1) := by decide +kernel
theorem dX8_meetings_75 : decode cX8_meetings 75 = .ok (.iaload, 1) := by decide +kernel
theorem dX8_meetings_76 : decode cX8_meetings 76 = .ok (.aload_n 1, 1) := by decide +kernel
theorem dX8_meetings_77 : decode cX8_meetings 77 = .ok (.iconst 4, 1) := by decide +kernel
theorem dX8_meetings_78 : decode cX8_meetings 78 = .ok (.iload 4, 2) := by decide +kernel
theorem dX8_meetings_80 : decode cX8_meetings 80 = .ok (.iadd, 1) := by decide +kernel
theorem dX8_meetings_81 : decode cX8_meetings 81 = .ok (.iaload, 1) := by decide +kernel
theorem dX8_meetings_82 : decode cX8_meetings 82 = .ok (.if_icmp .ne 7, 3) := by decide +kernel
theorem dX8_meetings_85 : decode cX8_meetings 85 = .ok (.iconst 1, 1) := by decide +kernel
theorem dX8_meetings_86 : decode cX8_meetings 86 = .ok (.goto 4, 3) := by decide +kernel
theorem dX8_meetings_89 : decode cX8_meetings 89 = .ok (.iconst 0, 1) := by decide +kernel
theorem dX8_meetings_90 : decode cX8_meetings 90 = .ok (.iadd, 1) := by decide +kernel
theorem dX8_meetings_91 : decode cX8_meetings 91 = .ok (.istore_n 2, 1) := by decide +kernel
theorem dX8_meetings_92 : decode cX8_meetings 92 = .ok (.iinc 4 1, 3) := by decide +kernel
theorem dX8_meetings_95 : decode cX8_meetings 95 = .ok (.goto (-78), 3) := by decide +kernel
theorem dX8_meetings_98 : decode cX8_meetings 98 = .ok (.iinc 3 1, 3) := by decide +kernel
theorem dX8_meetings_101 : decode cX8_meetings 101 = .ok (.goto (-97), 3) := by decide +kernel
theorem dX8_meetings_104 : decode cX8_meetings 104 = .ok (.iload_n 2, 1) := by decide +kernel
theorem dX8_meetings_105 : decode cX8_meetings 105 = .ok (.ireturn, 1) := by decide +kernel
set_option maxRecDepth 20000 in
theorem ggX8_goes_X8_isDone : GoodIn wsX8_goes wsX8_isDone := goodIn_r _ [6, 1, 7, 8, 5, 9, 10, 11, 12, 13, 14, 15, 39, 40, 41, 42, 43, 44, 45, 46, 47, 48, 49, 50, 51, 52, 53, 54, 55, 56, 57] (by decide +kernel) (by decide +kernel)
set_option maxRecDepth 20000 in
theorem gX8_goes_X8_isDone : GoodIn wsX8_goes (wsV RX8 142 RX8 yX8_isDone wsX8_isDone) := goodIn_app (goodIn_of _ (by decide +kernel)) ggX8_goes_X8_isDone
set_option maxRecDepth 20000 in
theorem ggX8_goes_X8_meetings : GoodIn wsX8_goes wsX8_meetings := goodIn_r _ [19, 1, 20, 21, 22, 5, 23, 24, 25, 26, 27, 39, 40, 41, 42, 43, 44, 45, 46, 47, 48, 49, 50, 51, 52, 53, 54, 55, 56, 57] (by decide +kernel) (by decide +kernel)
set_option maxRecDepth 20000 in
theorem gX8_goes_X8_meetings : GoodIn wsX8_goes (wsV RX8 145 RX8 yX8_meetings wsX8_meetings) := goodIn_app (goodIn_of _ (by decide +kernel)) ggX8_goes_X8_meetings
set_option maxRecDepth 20000 in
theorem ggX8_goes_X8_hasShade : GoodIn wsX8_goes wsX8_hasShade := goodIn_r _ [30] (by decide +kernel) (by decide +kernel)
set_option maxRecDepth 20000 in
theorem gX8_goes_X8_hasShade : GoodIn wsX8_goes (va_wsS RX8 128 yX8_hasShade wsX8_hasShade) := goodIn_app (goodIn_of _ (by decide +kernel)) ggX8_goes_X8_hasShade
set_option maxRecDepth 20000 in
theorem ggX8_goes_X8_under : GoodIn wsX8_goes wsX8_under := goodIn_r _ [23, 1, 39, 40, 41, 42, 43, 44, 45, 46, 47, 48, 49, 50, 51, 52, 53, 54, 55, 56, 57] (by decide +kernel) (by decide +kernel)
set_option maxRecDepth 20000 in
theorem gX8_goes_X8_under : GoodIn wsX8_goes (wsV RX8 115 RX8 yX8_under wsX8_under) := goodIn_app (goodIn_of _ (by decide +kernel)) ggX8_goes_X8_under
set_option maxRecDepth 20000 in
theorem ggX8_goes_X8_goesOn : GoodIn wsX8_goes wsX8_goesOn := goodIn_r _ [34, 1, 39, 40, 41, 42, 43, 44, 45, 46, 47, 48, 49, 50, 51, 52, 53, 54, 55, 56, 57] (by decide +kernel) (by decide +kernel)
set_option maxRecDepth 20000 in
theorem gX8_goes_X8_goesOn : GoodIn wsX8_goes (wsV RX8 149 RX8 yX8_goesOn wsX8_goesOn) := goodIn_app (goodIn_of _ (by decide +kernel)) ggX8_goes_X8_goesOn
set_option maxRecDepth 20000 in
theorem ggX8_goes_X8_wears : GoodIn wsX8_goes wsX8_wears := goodIn_r _ [38, 1, 39, 40, 41, 42, 43, 44, 45, 46, 47, 48, 49, 50, 51, 52, 53, 54, 55, 56, 57] (by decide +kernel) (by decide +kernel)
set_option maxRecDepth 20000 in
theorem gX8_goes_X8_wears : GoodIn wsX8_goes (wsV RX8 153 RX8 yX8_wears wsX8_wears) := goodIn_app (goodIn_of _ (by decide +kernel)) ggX8_goes_X8_wears
theorem dX8_goes_0 : decode cX8_goes 0 = .ok (.iconst 0, 1) := by decide +kernel
theorem dX8_goes_1 : decode cX8_goes 1 = .ok (.istore_n 2, 1) := by decide +kernel
theorem dX8_goes_2 : decode cX8_goes 2 = .ok (.iload_n 2, 1) := by decide +kernel
theorem dX8_goes_3 : decode cX8_goes 3 = .ok (.aload_n 0, 1) := by decide +kernel
theorem dX8_goes_4 : decode cX8_goes 4 = .ok (.getfield 22, 3) := by decide +kernel
theorem dX8_goes_7 : decode cX8_goes 7 = .ok (.iconst 3, 1) := by decide +kernel
theorem dX8_goes_8 : decode cX8_goes 8 = .ok (.iaload, 1) := by decide +kernel
theorem dX8_goes_9 : decode cX8_goes 9 = .ok (.if_icmp .ge 31, 3) := by decide +kernel
theorem dX8_goes_12 : decode cX8_goes 12 = .ok (.aload_n 1, 1) := by decide +kernel
theorem dX8_goes_13 : decode cX8_goes 13 = .ok (.iconst 2, 1) := by decide +kernel
theorem dX8_goes_14 : decode cX8_goes 14 = .ok (.dup2, 1) := by decide +kernel
theorem dX8_goes_15 : decode cX8_goes 15 = .ok (.iaload, 1) := by decide +kernel
theorem dX8_goes_16 : decode cX8_goes 16 = .ok (.aload_n 0, 1) := by decide +kernel
theorem dX8_goes_17 : decode cX8_goes 17 = .ok (.aload_n 1, 1) := by decide +kernel
theorem dX8_goes_18 : decode cX8_goes 18 = .ok (.iload_n 2, 1) := by decide +kernel
theorem dX8_goes_19 : decode cX8_goes 19 = .ok (.invokevirtual 142, 3) := by decide +kernel
theorem dX8_goes_22 : decode cX8_goes 22 = .ok (.ifCond .eq 9, 3) := by decide +kernel
theorem dX8_goes_25 : decode cX8_goes 25 = .ok (.iconst 1, 1) := by decide +kernel
theorem dX8_goes_26 : decode cX8_goes 26 = .ok (.iload_n 2, 1) := by decide +kernel
theorem dX8_goes_27 : decode cX8_goes 27 = .ok (.ishl, 1) := by decide +kernel
theorem dX8_goes_28 : decode cX8_goes 28 = .ok (.goto 4, 3) := by decide +kernel
theorem dX8_goes_31 : decode cX8_goes 31 = .ok (.iconst 0, 1) := by decide +kernel
theorem dX8_goes_32 : decode cX8_goes 32 = .ok (.ior, 1) := by decide +kernel
theorem dX8_goes_33 : decode cX8_goes 33 = .ok (.iastore, 1) := by decide +kernel
theorem dX8_goes_34 : decode cX8_goes 34 = .ok (.iinc 2 1, 3) := by decide +kernel
theorem dX8_goes_37 : decode cX8_goes 37 = .ok (.goto (-35), 3) := by decide +kernel
theorem dX8_goes_40 : decode cX8_goes 40 = .ok (.aload_n 1, 1) := by decide +kernel
theorem dX8_goes_41 : decode cX8_goes 41 = .ok (.iconst 1, 1) := by decide +kernel
theorem dX8_goes_42 : decode cX8_goes 42 = .ok (.dup2, 1) := by decide +kernel
theorem dX8_goes_43 : decode cX8_goes 43 = .ok (.iaload, 1) := by decide +kernel
theorem dX8_goes_44 : decode cX8_goes 44 = .ok (.aload_n 0, 1) := by decide +kernel
theorem dX8_goes_45 : decode cX8_goes 45 = .ok (.aload_n 1, 1) := by decide +kernel
theorem dX8_goes_46 : decode cX8_goes 46 = .ok (.invokevirtual 145, 3) := by decide +kernel
theorem dX8_goes_49 : decode cX8_goes 49 = .ok (.iadd, 1) := by decide +kernel
theorem dX8_goes_50 : decode cX8_goes 50 = .ok (.iastore, 1) := by decide +kernel
theorem dX8_goes_51 : decode cX8_goes 51 = .ok (.iconst 0, 1) := by decide +kernel
theorem dX8_goes_52 : decode cX8_goes 52 = .ok (.istore_n 2, 1) := by decide +kernel
theorem dX8_goes_53 : decode cX8_goes 53 = .ok (.iload_n 2, 1) := by decide +kernel
theorem dX8_goes_54 : decode cX8_goes 54 = .ok (.aload_n 0, 1) := by decide +kernel
theorem dX8_goes_55 : decode cX8_goes 55 = .ok (.getfield 22, 3) := by decide +kernel
theorem dX8_goes_58 : decode cX8_goes 58 = .ok (.iconst 2, 1) := by decide +kernel
theorem dX8_goes_59 : decode cX8_goes 59 = .ok (.iaload, 1) := by decide +kernel
theorem dX8_goes_60 : decode cX8_goes 60 = .ok (.if_icmp .ge 30, 3) := by decide +kernel
theorem dX8_goes_63 : decode cX8_goes 63 = .ok (.aload_n 1, 1) := by decide +kernel
theorem dX8_goes_64 : decode cX8_goes 64 = .ok (.iconst 3, 1) := by decide +kernel
theorem dX8_goes_65 : decode cX8_goes 65 = .ok (.dup2, 1) := by decide +kernel
theorem dX8_goes_66 : decode cX8_goes 66 = .ok (.iaload, 1) := by decide +kernel
theorem dX8_goes_67 : decode cX8_goes 67 = .ok (.aload_n 1, 1) := by decide +kernel
theorem dX8_goes_68 : decode cX8_goes 68 = .ok (.iload_n 2, 1) := by decide +kernel
theorem dX8_goes_69 : decode cX8_goes 69 = .ok (.invokestatic 128, 3) := by decide +kernel
theorem dX8_goes_72 : decode cX8_goes 72 = .ok (.ifCond .eq 7, 3) := by decide +kernel
theorem dX8_goes_75 : decode cX8_goes 75 = .ok (.iconst 0, 1) := by decide +kernel
theorem dX8_goes_76 : decode cX8_goes 76 = .ok (.goto 6, 3) := by decide +kernel
theorem dX8_goes_79 : decode cX8_goes 79 = .ok (.iconst 1, 1) := by decide +kernel
theorem dX8_goes_80 : decode cX8_goes 80 = .ok (.iload_n 2, 1) := by decide +kernel
theorem dX8_goes_81 : decode cX8_goes 81 = .ok (.ishl, 1) := by decide +kernel
theorem dX8_goes_82 : decode cX8_goes 82 = .ok (.ior, 1) := by decide +kernel
theorem dX8_goes_83 : decode cX8_goes 83 = .ok (.iastore, 1) := by decide +kernel
theorem dX8_goes_84 : decode cX8_goes 84 = .ok (.iinc 2 1, 3) := by decide +kernel
theorem dX8_goes_87 : decode cX8_goes 87 = .ok (.goto (-34), 3) := by decide +kernel
theorem dX8_goes_90 : decode cX8_goes 90 = .ok (.iconst 0, 1) := by decide +kernel
theorem dX8_goes_91 : decode cX8_goes 91 = .ok (.istore_n 2, 1) := by decide +kernel
theorem dX8_goes_92 : decode cX8_goes 92 = .ok (.iload_n 2, 1) := by decide +kernel
theorem dX8_goes_93 : decode cX8_goes 93 = .ok (.aload_n 0, 1) := by decide +kernel
theorem dX8_goes_94 : decode cX8_goes 94 = .ok (.getfield 22, 3) := by decide +kernel
theorem dX8_goes_97 : decode cX8_goes 97 = .ok (.iconst 1, 1) := by decide +kernel
theorem dX8_goes_98 : decode cX8_goes 98 = .ok (.iaload, 1) := by decide +kernel
theorem dX8_goes_99 : decode cX8_goes 99 = .ok (.if_icmp .ge 74, 3) := by decide +kernel
theorem dX8_goes_102 : decode cX8_goes 102 = .ok (.aload_n 0, 1) := by decide +kernel
theorem dX8_goes_103 : decode cX8_goes 103 = .ok (.aload_n 1, 1) := by decide +kernel
theorem dX8_goes_104 : decode cX8_goes 104 = .ok (.iload_n 2, 1) := by decide +kernel
theorem dX8_goes_105 : decode cX8_goes 105 = .ok (.invokevirtual 115, 3) := by decide +kernel
theorem dX8_goes_108 : decode cX8_goes 108 = .ok (.ifCond .eq 59, 3) := by decide +kernel
theorem dX8_goes_111 : decode cX8_goes 111 = .ok (.aload_n 1, 1) := by decide +kernel
theorem dX8_goes_112 : decode cX8_goes 112 = .ok (.iconst 4, 1) := by decide +kernel
theorem dX8_goes_113 : decode cX8_goes 113 = .ok (.iload_n 2, 1) := by decide +kernel
theorem dX8_goes_114 : decode cX8_goes 114 = .ok (.iadd, 1) := by decide +kernel
theorem dX8_goes_115 : decode cX8_goes 115 = .ok (.aload_n 1, 1) := by decide +kernel
theorem dX8_goes_116 : decode cX8_goes 116 = .ok (.iconst 4, 1) := by decide +kernel
theorem dX8_goes_117 : decode cX8_goes 117 = .ok (.iload_n 2, 1) := by decide +kernel
theorem dX8_goes_118 : decode cX8_goes 118 = .ok (.iadd, 1) := by decide +kernel
theorem dX8_goes_119 : decode cX8_goes 119 = .ok (.iaload, 1) := by decide +kernel
theorem dX8_goes_120 : decode cX8_goes 120 = .ok (.aload_n 0, 1) := by decide +kernel
theorem dX8_goes_121 : decode cX8_goes 121 = .ok (.iload_n 2, 1) := by decide +kernel
theorem dX8_goes_122 : decode cX8_goes 122 = .ok (.aload_n 1, 1) := by decide +kernel
theorem dX8_goes_123 : decode cX8_goes 123 = .ok (.iconst 0, 1) := by decide +kernel
theorem dX8_goes_124 : decode cX8_goes 124 = .ok (.iaload, 1) := by decide +kernel
theorem dX8_goes_125 : decode cX8_goes 125 = .ok (.invokevirtual 149, 3) := by decide +kernel
theorem dX8_goes_128 : decode cX8_goes 128 = .ok (.iadd, 1) := by decide +kernel
theorem dX8_goes_129 : decode cX8_goes 129 = .ok (.bipush 24, 2) := by decide +kernel
theorem dX8_goes_131 : decode cX8_goes 131 = .ok (.irem, 1) := by decide +kernel
theorem dX8_goes_132 : decode cX8_goes 132 = .ok (.iastore, 1) := by decide +kernel
theorem dX8_goes_133 : decode cX8_goes 133 = .ok (.aload_n 1, 1) := by decide +kernel
theorem dX8_goes_134 : decode cX8_goes 134 = .ok (.bipush 10, 2) := by decide +kernel
theorem dX8_goes_136 : decode cX8_goes 136 = .ok (.iload_n 2, 1) := by decide +kernel
theorem dX8_goes_137 : decode cX8_goes 137 = .ok (.iadd, 1) := by decide +kernel
theorem dX8_goes_138 : decode cX8_goes 138 = .ok (.iaload, 1) := by decide +kernel
theorem dX8_goes_139 : decode cX8_goes 139 = .ok (.aload_n 0, 1) := by decide +kernel
theorem dX8_goes_140 : decode cX8_goes 140 = .ok (.iload_n 2, 1) := by decide +kernel
theorem dX8_goes_141 : decode cX8_goes 141 = .ok (.aload_n 1, 1) := by decide +kernel
theorem dX8_goes_142 : decode cX8_goes 142 = .ok (.iconst 0, 1) := by decide +kernel
theorem dX8_goes_143 : decode cX8_goes 143 = .ok (.iaload, 1) := by decide +kernel
theorem dX8_goes_144 : decode cX8_goes 144 = .ok (.invokevirtual 153, 3) := by decide +kernel
theorem dX8_goes_147 : decode cX8_goes 147 = .ok (.iadd, 1) := by decide +kernel
theorem dX8_goes_148 : decode cX8_goes 148 = .ok (.istore_n 3, 1) := by decide +kernel
theorem dX8_goes_149 : decode cX8_goes 149 = .ok (.aload_n 1, 1) := by decide +kernel
theorem dX8_goes_150 : decode cX8_goes 150 = .ok (.bipush 10, 2) := by decide +kernel
theorem dX8_goes_152 : decode cX8_goes 152 = .ok (.iload_n 2, 1) := by decide +kernel
theorem dX8_goes_153 : decode cX8_goes 153 = .ok (.iadd, 1) := by decide +kernel
theorem dX8_goes_154 : decode cX8_goes 154 = .ok (.iload_n 3, 1) := by decide +kernel
theorem dX8_goes_155 : decode cX8_goes 155 = .ok (.bipush 20, 2) := by decide +kernel
theorem dX8_goes_157 : decode cX8_goes 157 = .ok (.if_icmp .le 8, 3) := by decide +kernel
theorem dX8_goes_160 : decode cX8_goes 160 = .ok (.bipush 20, 2) := by decide +kernel
theorem dX8_goes_162 : decode cX8_goes 162 = .ok (.goto 4, 3) := by decide +kernel
theorem dX8_goes_165 : decode cX8_goes 165 = .ok (.iload_n 3, 1) := by decide +kernel
theorem dX8_goes_166 : decode cX8_goes 166 = .ok (.iastore, 1) := by decide +kernel
theorem dX8_goes_167 : decode cX8_goes 167 = .ok (.iinc 2 1, 3) := by decide +kernel
theorem dX8_goes_170 : decode cX8_goes 170 = .ok (.goto (-78), 3) := by decide +kernel
theorem dX8_goes_173 : decode cX8_goes 173 = .ok (.aload_n 1, 1) := by decide +kernel
theorem dX8_goes_174 : decode cX8_goes 174 = .ok (.iconst 0, 1) := by decide +kernel
theorem dX8_goes_175 : decode cX8_goes 175 = .ok (.dup2, 1) := by decide +kernel
theorem dX8_goes_176 : decode cX8_goes 176 = .ok (.iaload, 1) := by decide +kernel
theorem dX8_goes_177 : decode cX8_goes 177 = .ok (.iconst 1, 1) := by decide +kernel
theorem dX8_goes_178 : decode cX8_goes 178 = .ok (.iadd, 1) := by decide +kernel
theorem dX8_goes_179 : decode cX8_goes 179 = .ok (.iastore, 1) := by decide +kernel
theorem dX8_goes_180 : decode cX8_goes 180 = .ok (.return_, 1) := by decide +kernel
theorem dX8_remember_0 : decode cX8_remember 0 = .ok (.iconst 0, 1) := by decide +kernel
theorem dX8_remember_1 : decode cX8_remember 1 = .ok (.istore_n 1, 1) := by decide +kernel
theorem dX8_remember_2 : decode cX8_remember 2 = .ok (.iload_n 1, 1) := by decide +kernel
theorem dX8_remember_3 : decode cX8_remember 3 = .ok (.bipush 26, 2) := by decide +kernel
theorem dX8_remember_5 : decode cX8_remember 5 = .ok (.if_icmp .ge 29, 3) := by decide +kernel
theorem dX8_remember_8 : decode cX8_remember 8 = .ok (.aload_n 0, 1) := by decide +kernel
theorem dX8_remember_9 : decode cX8_remember 9 = .ok (.getfield 31, 3) := by decide +kernel
theorem dX8_remember_12 : decode cX8_remember 12 = .ok (.bipush 26, 2) := by decide +kernel
theorem dX8_remember_14 : decode cX8_remember 14 = .ok (.aload_n 0, 1) := by decide +kernel
theorem dX8_remember_15 : decode cX8_remember 15 = .ok (.getfield 156, 3) := by decide +kernel
theorem dX8_remember_18 : decode cX8_remember 18 = .ok (.imul, 1) := by decide +kernel
theorem dX8_remember_19 : decode cX8_remember 19 = .ok (.iload_n 1, 1) := by decide +kernel
theorem dX8_remember_20 : decode cX8_remember 20 = .ok (.iadd, 1) := by decide +kernel
theorem dX8_remember_21 : decode cX8_remember 21 = .ok (.aload_n 0, 1) := by decide +kernel
theorem dX8_remember_22 : decode cX8_remember 22 = .ok (.getfield 28, 3) := by decide +kernel
theorem dX8_remember_25 : decode cX8_remember 25 = .ok (.iload_n 1, 1) := by decide +kernel
theorem dX8_remember_26 : decode cX8_remember 26 = .ok (.iaload, 1) := by decide +kernel
theorem dX8_remember_27 : decode cX8_remember 27 = .ok (.iastore, 1) := by decide +kernel
theorem dX8_remember_28 : decode cX8_remember 28 = .ok (.iinc 1 1, 3) := by decide +kernel
theorem dX8_remember_31 : decode cX8_remember 31 = .ok (.goto (-29), 3) := by decide +kernel
theorem dX8_remember_34 : decode cX8_remember 34 = .ok (.aload_n 0, 1) := by decide +kernel
theorem dX8_remember_35 : decode cX8_remember 35 = .ok (.aload_n 0, 1) := by decide +kernel
theorem dX8_remember_36 : decode cX8_remember 36 = .ok (.getfield 156, 3) := by decide +kernel
theorem dX8_remember_39 : decode cX8_remember 39 = .ok (.iconst 1, 1) := by decide +kernel
theorem dX8_remember_40 : decode cX8_remember 40 = .ok (.iadd, 1) := by decide +kernel
theorem dX8_remember_41 : decode cX8_remember 41 = .ok (.bipush 8, 2) := by decide +kernel
theorem dX8_remember_43 : decode cX8_remember 43 = .ok (.irem, 1) := by decide +kernel
theorem dX8_remember_44 : decode cX8_remember 44 = .ok (.putfield 156, 3) := by decide +kernel
theorem dX8_remember_47 : decode cX8_remember 47 = .ok (.aload_n 0, 1) := by decide +kernel
theorem dX8_remember_48 : decode cX8_remember 48 = .ok (.dup, 1) := by decide +kernel
theorem dX8_remember_49 : decode cX8_remember 49 = .ok (.getfield 99, 3) := by decide +kernel
theorem dX8_remember_52 : decode cX8_remember 52 = .ok (.aload_n 0, 1) := by decide +kernel
theorem dX8_remember_53 : decode cX8_remember 53 = .ok (.getfield 99, 3) := by decide +kernel
theorem dX8_remember_56 : decode cX8_remember 56 = .ok (.bipush 8, 2) := by decide +kernel
theorem dX8_remember_58 : decode cX8_remember 58 = .ok (.if_icmp .ge 7, 3) := by decide +kernel
theorem dX8_remember_61 : decode cX8_remember 61 = .ok (.iconst 1, 1) := by decide +kernel
theorem dX8_remember_62 : decode cX8_remember 62 = .ok (.goto 4, 3) := by decide +kernel
theorem dX8_remember_65 : decode cX8_remember 65 = .ok (.iconst 0, 1) := by decide +kernel
theorem dX8_remember_66 : decode cX8_remember 66 = .ok (.iadd, 1) := by decide +kernel
theorem dX8_remember_67 : decode cX8_remember 67 = .ok (.putfield 99, 3) := by decide +kernel
theorem dX8_remember_70 : decode cX8_remember 70 = .ok (.return_, 1) := by decide +kernel
theorem dX8_copyNow_0 : decode cX8_copyNow 0 = .ok (.iconst 0, 1) := by decide +kernel
theorem dX8_copyNow_1 : decode cX8_copyNow 1 = .ok (.istore_n 1, 1) := by decide +kernel
theorem dX8_copyNow_2 : decode cX8_copyNow 2 = .ok (.iload_n 1, 1) := by decide +kernel
theorem dX8_copyNow_3 : decode cX8_copyNow 3 = .ok (.bipush 26, 2) := by decide +kernel
theorem dX8_copyNow_5 : decode cX8_copyNow 5 = .ok (.if_icmp .ge 21, 3) := by decide +kernel
theorem dX8_copyNow_8 : decode cX8_copyNow 8 = .ok (.aload_n 0, 1) := by decide +kernel
theorem dX8_copyNow_9 : decode cX8_copyNow 9 = .ok (.getfield 28, 3) := by decide +kernel
theorem dX8_copyNow_12 : decode cX8_copyNow 12 = .ok (.iload_n 1, 1) := by decide +kernel
theorem dX8_copyNow_13 : decode cX8_copyNow 13 = .ok (.aload_n 0, 1) := by decide +kernel
theorem dX8_copyNow_14 : decode cX8_copyNow 14 = .ok (.getfield 25, 3) := by decide +kernel
theorem dX8_copyNow_17 : decode cX8_copyNow 17 = .ok (.iload_n 1, 1) := by decide +kernel
theorem dX8_copyNow_18 : decode cX8_copyNow 18 = .ok (.iaload, 1) := by decide +kernel
theorem dX8_copyNow_19 : decode cX8_copyNow 19 = .ok (.iastore, 1) := by decide +kernel
theorem dX8_copyNow_20 : decode cX8_copyNow 20 = .ok (.iinc 1 1, 3) := by decide +kernel
theorem dX8_copyNow_23 : decode cX8_copyNow 23 = .ok (.goto (-21), 3) := by decide +kernel
theorem dX8_copyNow_26 : decode cX8_copyNow 26 = .ok (.return_, 1) := by decide +kernel
set_option maxRecDepth 20000 in
theorem ggX8_done_X8_remember : GoodIn wsX8_done wsX8_remember := goodIn_r _ [5, 6, 7, 8, 9, 10, 11, 12, 13, 14, 15, 16, 17, 18, 19, 20, 21, 22, 23, 24, 25, 26, 27, 28] (by decide +kernel) (by decide +kernel)
set_option maxRecDepth 20000 in
theorem gX8_done_X8_remember : GoodIn wsX8_done (wsV RX8 159 RX8 yX8_remember wsX8_remember) := goodIn_app (goodIn_of _ (by decide +kernel)) ggX8_done_X8_remember
theorem dX8_done_0 : decode cX8_done 0 = .ok (.iload_n 1, 1) := by decide +kernel
theorem dX8_done_1 : decode cX8_done 1 = .ok (.ifCond .ne 6, 3) := by decide +kernel
theorem dX8_done_4 : decode cX8_done 4 = .ok (.bipush (-2), 2) := by decide +kernel
theorem dX8_done_6 : decode cX8_done 6 = .ok (.ireturn, 1) := by decide +kernel
theorem dX8_done_7 : decode cX8_done 7 = .ok (.aload_n 0, 1) := by decide +kernel
theorem dX8_done_8 : decode cX8_done 8 = .ok (.invokevirtual 159, 3) := by decide +kernel
theorem dX8_done_11 : decode cX8_done 11 = .ok (.iload_n 2, 1) := by decide +kernel
theorem dX8_done_12 : decode cX8_done 12 = .ok (.ireturn, 1) := by decide +kernel
set_option maxRecDepth 20000 in
theorem ggX8_take_X8_isPerson : GoodIn wsX8_take wsX8_isPerson := goodIn_r _ [6, 7, 8, 9, 5, 10, 42, 43, 44, 45, 46, 47, 48, 49, 50, 51, 52, 53, 54, 55, 56, 57, 58, 59, 60] (by decide +kernel) (by decide +kernel)
set_option maxRecDepth 20000 in
theorem gX8_take_X8_isPerson : GoodIn wsX8_take (wsV RX8 122 RX8 yX8_isPerson wsX8_isPerson) := goodIn_app (goodIn_of _ (by decide +kernel)) ggX8_take_X8_isPerson
set_option maxRecDepth 20000 in
theorem ggX8_take_X8_isParasol : GoodIn wsX8_take wsX8_isParasol := goodIn_r _ [14, 7, 8, 9, 5, 10, 42, 43, 44, 45, 46, 47, 48, 49, 50, 51, 52, 53, 54, 55, 56, 57, 58, 59, 60] (by decide +kernel) (by decide +kernel)
set_option maxRecDepth 20000 in
theorem gX8_take_X8_isParasol : GoodIn wsX8_take (wsV RX8 112 RX8 yX8_isParasol wsX8_isParasol) := goodIn_app (goodIn_of _ (by decide +kernel)) ggX8_take_X8_isParasol
set_option maxRecDepth 20000 in
theorem ggX8_take_X8_copyNow : GoodIn wsX8_take wsX8_copyNow := goodIn_r _ [18, 19, 1, 42, 43, 44, 45, 46, 47, 48, 49, 50, 51, 52, 53, 54, 55, 56, 57, 58, 59, 60] (by decide +kernel) (by decide +kernel)
set_option maxRecDepth 20000 in
theorem gX8_take_X8_copyNow : GoodIn wsX8_take (wsV RX8 162 RX8 yX8_copyNow wsX8_copyNow) := goodIn_app (goodIn_of _ (by decide +kernel)) ggX8_take_X8_copyNow
set_option maxRecDepth 20000 in
theorem ggX8_take_X8_takes : GoodIn wsX8_take wsX8_takes := goodIn_r _ [23, 24, 25, 5, 26, 27, 28, 29, 30, 7, 42, 43, 44, 45, 46, 47, 48, 49, 50, 51, 52, 53, 54, 55, 56, 57, 58, 59, 60] (by decide +kernel) (by decide +kernel)
set_option maxRecDepth 20000 in
theorem gX8_take_X8_takes : GoodIn wsX8_take (wsV RX8 165 RX8 yX8_takes wsX8_takes) := goodIn_app (goodIn_of _ (by decide +kernel)) ggX8_take_X8_takes
set_option maxRecDepth 20000 in
theorem ggX8_take_X8_done : GoodIn wsX8_take wsX8_done := goodIn_r _ [34, 35, 36, 37, 5, 38, 39, 40, 19, 41, 42, 43, 44, 45, 46, 47, 48, 49, 50, 51, 52, 53, 54, 55, 56, 57, 58, 59, 60] (by decide +kernel) (by decide +kernel)
set_option maxRecDepth 20000 in
theorem gX8_take_X8_done : GoodIn wsX8_take (wsV RX8 169 RX8 yX8_done wsX8_done) := goodIn_app (goodIn_of _ (by decide +kernel)) ggX8_take_X8_done
theorem dX8_take_0 : decode cX8_take 0 = .ok (.aload_n 0, 1) := by decide +kernel
theorem dX8_take_1 : decode cX8_take 1 = .ok (.iload_n 1, 1) := by decide +kernel
theorem dX8_take_2 : decode cX8_take 2 = .ok (.invokevirtual 122, 3) := by decide +kernel
theorem dX8_take_5 : decode cX8_take 5 = .ok (.ifCond .eq 11, 3) := by decide +kernel
theorem dX8_take_8 : decode cX8_take 8 = .ok (.aload_n 0, 1) := by decide +kernel
theorem dX8_take_9 : decode cX8_take 9 = .ok (.iload_n 2, 1) := by decide +kernel
theorem dX8_take_10 : decode cX8_take 10 = .ok (.invokevirtual 112, 3) := by decide +kernel
theorem dX8_take_13 : decode cX8_take 13 = .ok (.ifCond .ne 5, 3) := by decide +kernel
theorem dX8_take_16 : decode cX8_take 16 = .ok (.iconst (-1), 1) := by decide +kernel
theorem dX8_take_17 : decode cX8_take 17 = .ok (.ireturn, 1) := by decide +kernel
theorem dX8_take_18 : decode cX8_take 18 = .ok (.aload_n 0, 1) := by decide +kernel
theorem dX8_take_19 : decode cX8_take 19 = .ok (.invokevirtual 162, 3) := by decide +kernel
theorem dX8_take_22 : decode cX8_take 22 = .ok (.aload_n 0, 1) := by decide +kernel
theorem dX8_take_23 : decode cX8_take 23 = .ok (.aload_n 0, 1) := by decide +kernel
theorem dX8_take_24 : decode cX8_take 24 = .ok (.aload_n 0, 1) := by decide +kernel
theorem dX8_take_25 : decode cX8_take 25 = .ok (.getfield 25, 3) := by decide +kernel
theorem dX8_take_28 : decode cX8_take 28 = .ok (.iload_n 1, 1) := by decide +kernel
theorem dX8_take_29 : decode cX8_take 29 = .ok (.iload_n 2, 1) := by decide +kernel
theorem dX8_take_30 : decode cX8_take 30 = .ok (.invokevirtual 165, 3) := by decide +kernel
theorem dX8_take_33 : decode cX8_take 33 = .ok (.aload_n 0, 1) := by decide +kernel
theorem dX8_take_34 : decode cX8_take 34 = .ok (.getfield 25, 3) := by decide +kernel
theorem dX8_take_37 : decode cX8_take 37 = .ok (.iconst 4, 1) := by decide +kernel
theorem dX8_take_38 : decode cX8_take 38 = .ok (.iload_n 2, 1) := by decide +kernel
theorem dX8_take_39 : decode cX8_take 39 = .ok (.iadd, 1) := by decide +kernel
theorem dX8_take_40 : decode cX8_take 40 = .ok (.iaload, 1) := by decide +kernel
theorem dX8_take_41 : decode cX8_take 41 = .ok (.invokevirtual 169, 3) := by decide +kernel
theorem dX8_take_44 : decode cX8_take 44 = .ok (.ireturn, 1) := by decide +kernel
set_option maxRecDepth 20000 in
theorem ggX8_share_X8_isPerson : GoodIn wsX8_share wsX8_isPerson := goodIn_r _ [6, 7, 8, 9, 5, 10, 38, 39, 40, 41, 42, 43, 44, 45, 46, 47, 48, 49, 50, 51, 52, 53, 54, 55, 56] (by decide +kernel) (by decide +kernel)
set_option maxRecDepth 20000 in
theorem gX8_share_X8_isPerson : GoodIn wsX8_share (wsV RX8 122 RX8 yX8_isPerson wsX8_isPerson) := goodIn_app (goodIn_of _ (by decide +kernel)) ggX8_share_X8_isPerson
set_option maxRecDepth 20000 in
theorem ggX8_share_X8_copyNow : GoodIn wsX8_share wsX8_copyNow := goodIn_r _ [14, 15, 1, 38, 39, 40, 41, 42, 43, 44, 45, 46, 47, 48, 49, 50, 51, 52, 53, 54, 55, 56] (by decide +kernel) (by decide +kernel)
set_option maxRecDepth 20000 in
theorem gX8_share_X8_copyNow : GoodIn wsX8_share (wsV RX8 162 RX8 yX8_copyNow wsX8_copyNow) := goodIn_app (goodIn_of _ (by decide +kernel)) ggX8_share_X8_copyNow
set_option maxRecDepth 20000 in
theorem ggX8_share_X8_shares : GoodIn wsX8_share wsX8_shares := goodIn_r _ [19, 20, 21, 22, 5, 23, 7, 24, 25, 26, 38, 39, 40, 41, 42, 43, 44, 45, 46, 47, 48, 49, 50, 51, 52, 53, 54, 55, 56] (by decide +kernel) (by decide +kernel)
set_option maxRecDepth 20000 in
theorem gX8_share_X8_shares : GoodIn wsX8_share (wsV RX8 173 RX8 yX8_shares wsX8_shares) := goodIn_app (goodIn_of _ (by decide +kernel)) ggX8_share_X8_shares
set_option maxRecDepth 20000 in
theorem ggX8_share_X8_done : GoodIn wsX8_share wsX8_done := goodIn_r _ [30, 31, 32, 33, 5, 34, 35, 36, 15, 37, 38, 39, 40, 41, 42, 43, 44, 45, 46, 47, 48, 49, 50, 51, 52, 53, 54, 55, 56] (by decide +kernel) (by decide +kernel)
set_option maxRecDepth 20000 in
theorem gX8_share_X8_done : GoodIn wsX8_share (wsV RX8 169 RX8 yX8_done wsX8_done) := goodIn_app (goodIn_of _ (by decide +kernel)) ggX8_share_X8_done
theorem dX8_share_0 : decode cX8_share 0 = .ok (.aload_n 0, 1) := by decide +kernel
theorem dX8_share_1 : decode cX8_share 1 = .ok (.iload_n 1, 1) := by decide +kernel
theorem dX8_share_2 : decode cX8_share 2 = .ok (.invokevirtual 122, 3) := by decide +kernel
theorem dX8_share_5 : decode cX8_share 5 = .ok (.ifCond .eq 16, 3) := by decide +kernel
theorem dX8_share_8 : decode cX8_share 8 = .ok (.aload_n 0, 1) := by decide +kernel
theorem dX8_share_9 : decode cX8_share 9 = .ok (.iload_n 2, 1) := by decide +kernel
theorem dX8_share_10 : decode cX8_share 10 = .ok (.invokevirtual 122, 3) := by decide +kernel
theorem dX8_share_13 : decode cX8_share 13 = .ok (.ifCond .eq 8, 3) := by decide +kernel
theorem dX8_share_16 : decode cX8_share 16 = .ok (.iload_n 1, 1) := by decide +kernel
theorem dX8_share_17 : decode cX8_share 17 = .ok (.iload_n 2, 1) := by decide +kernel
theorem dX8_share_18 : decode cX8_share 18 = .ok (.if_icmp .ne 5, 3) := by decide +kernel
theorem dX8_share_21 : decode cX8_share 21 = .ok (.iconst (-1), 1) := by decide +kernel
theorem dX8_share_22 : decode cX8_share 22 = .ok (.ireturn, 1) := by decide +kernel
theorem dX8_share_23 : decode cX8_share 23 = .ok (.aload_n 0, 1) := by decide +kernel
theorem dX8_share_24 : decode cX8_share 24 = .ok (.invokevirtual 162, 3) := by decide +kernel
theorem dX8_share_27 : decode cX8_share 27 = .ok (.aload_n 0, 1) := by decide +kernel
theorem dX8_share_28 : decode cX8_share 28 = .ok (.aload_n 0, 1) := by decide +kernel
theorem dX8_share_29 : decode cX8_share 29 = .ok (.aload_n 0, 1) := by decide +kernel
theorem dX8_share_30 : decode cX8_share 30 = .ok (.getfield 25, 3) := by decide +kernel
theorem dX8_share_33 : decode cX8_share 33 = .ok (.iload_n 1, 1) := by decide +kernel
theorem dX8_share_34 : decode cX8_share 34 = .ok (.iload_n 2, 1) := by decide +kernel
theorem dX8_share_35 : decode cX8_share 35 = .ok (.invokevirtual 173, 3) := by decide +kernel
theorem dX8_share_38 : decode cX8_share 38 = .ok (.aload_n 0, 1) := by decide +kernel
theorem dX8_share_39 : decode cX8_share 39 = .ok (.getfield 25, 3) := by decide +kernel
theorem dX8_share_42 : decode cX8_share 42 = .ok (.bipush 21, 2) := by decide +kernel
theorem dX8_share_44 : decode cX8_share 44 = .ok (.iload_n 2, 1) := by decide +kernel
theorem dX8_share_45 : decode cX8_share 45 = .ok (.iadd, 1) := by decide +kernel
theorem dX8_share_46 : decode cX8_share 46 = .ok (.iaload, 1) := by decide +kernel
theorem dX8_share_47 : decode cX8_share 47 = .ok (.invokevirtual 169, 3) := by decide +kernel
theorem dX8_share_50 : decode cX8_share 50 = .ok (.ireturn, 1) := by decide +kernel
set_option maxRecDepth 20000 in
theorem ggX8_give_X8_isPerson : GoodIn wsX8_give wsX8_isPerson := goodIn_r _ [7, 8, 9, 10, 6, 11, 38, 39, 40, 41, 42, 43, 44, 45, 46, 47, 48, 49, 50, 51, 52, 53, 54, 55, 56] (by decide +kernel) (by decide +kernel)
set_option maxRecDepth 20000 in
theorem gX8_give_X8_isPerson : GoodIn wsX8_give (wsV RX8 122 RX8 yX8_isPerson wsX8_isPerson) := goodIn_app (goodIn_of _ (by decide +kernel)) ggX8_give_X8_isPerson
set_option maxRecDepth 20000 in
theorem ggX8_give_X8_copyNow : GoodIn wsX8_give wsX8_copyNow := goodIn_r _ [15, 2, 1, 38, 39, 40, 41, 42, 43, 44, 45, 46, 47, 48, 49, 50, 51, 52, 53, 54, 55, 56] (by decide +kernel) (by decide +kernel)
set_option maxRecDepth 20000 in
theorem gX8_give_X8_copyNow : GoodIn wsX8_give (wsV RX8 162 RX8 yX8_copyNow wsX8_copyNow) := goodIn_app (goodIn_of _ (by decide +kernel)) ggX8_give_X8_copyNow
set_option maxRecDepth 20000 in
theorem ggX8_give_X8_gives : GoodIn wsX8_give wsX8_gives := goodIn_r _ [19, 20, 21, 22, 6, 23, 8, 24, 25, 26, 38, 39, 40, 41, 42, 43, 44, 45, 46, 47, 48, 49, 50, 51, 52, 53, 54, 55, 56] (by decide +kernel) (by decide +kernel)
set_option maxRecDepth 20000 in
theorem gX8_give_X8_gives : GoodIn wsX8_give (wsV RX8 176 RX8 yX8_gives wsX8_gives) := goodIn_app (goodIn_of _ (by decide +kernel)) ggX8_give_X8_gives
set_option maxRecDepth 20000 in
theorem ggX8_give_X8_done : GoodIn wsX8_give wsX8_done := goodIn_r _ [30, 31, 32, 33, 6, 34, 35, 36, 2, 37, 38, 39, 40, 41, 42, 43, 44, 45, 46, 47, 48, 49, 50, 51, 52, 53, 54, 55, 56] (by decide +kernel) (by decide +kernel)
set_option maxRecDepth 20000 in
theorem gX8_give_X8_done : GoodIn wsX8_give (wsV RX8 169 RX8 yX8_done wsX8_done) := goodIn_app (goodIn_of _ (by decide +kernel)) ggX8_give_X8_done
theorem dX8_give_0 : decode cX8_give 0 = .ok (.aload_n 0, 1) := by decide +kernel
theorem dX8_give_1 : decode cX8_give 1 = .ok (.iload_n 1, 1) := by decide +kernel
theorem dX8_give_2 : decode cX8_give 2 = .ok (.invokevirtual 122, 3) := by decide +kernel
theorem dX8_give_5 : decode cX8_give 5 = .ok (.ifCond .ne 5, 3) := by decide +kernel
theorem dX8_give_8 : decode cX8_give 8 = .ok (.iconst (-1), 1) := by decide +kernel
theorem dX8_give_9 : decode cX8_give 9 = .ok (.ireturn, 1) := by decide +kernel
theorem dX8_give_10 : decode cX8_give 10 = .ok (.aload_n 0, 1) := by decide +kernel
theorem dX8_give_11 : decode cX8_give 11 = .ok (.invokevirtual 162, 3) := by decide +kernel
theorem dX8_give_14 : decode cX8_give 14 = .ok (.aload_n 0, 1) := by decide +kernel
theorem dX8_give_15 : decode cX8_give 15 = .ok (.aload_n 0, 1) := by decide +kernel
theorem dX8_give_16 : decode cX8_give 16 = .ok (.aload_n 0, 1) := by decide +kernel
theorem dX8_give_17 : decode cX8_give 17 = .ok (.getfield 25, 3) := by decide +kernel
theorem dX8_give_20 : decode cX8_give 20 = .ok (.iload_n 1, 1) := by decide +kernel
theorem dX8_give_21 : decode cX8_give 21 = .ok (.invokevirtual 176, 3) := by decide +kernel
theorem dX8_give_24 : decode cX8_give 24 = .ok (.aload_n 0, 1) := by decide +kernel
theorem dX8_give_25 : decode cX8_give 25 = .ok (.getfield 28, 3) := by decide +kernel
theorem dX8_give_28 : decode cX8_give 28 = .ok (.bipush 21, 2) := by decide +kernel
theorem dX8_give_30 : decode cX8_give 30 = .ok (.iload_n 1, 1) := by decide +kernel
theorem dX8_give_31 : decode cX8_give 31 = .ok (.iadd, 1) := by decide +kernel
theorem dX8_give_32 : decode cX8_give 32 = .ok (.iaload, 1) := by decide +kernel
theorem dX8_give_33 : decode cX8_give 33 = .ok (.invokevirtual 169, 3) := by decide +kernel
theorem dX8_give_36 : decode cX8_give 36 = .ok (.ireturn, 1) := by decide +kernel
set_option maxRecDepth 20000 in
theorem ggX8_walk_X8_isPerson : GoodIn wsX8_walk wsX8_isPerson := goodIn_r _ [6, 7, 8, 9, 5, 10, 34, 35, 36, 37, 38, 39, 40, 41, 42, 43, 44, 45, 46, 47, 48, 49, 50, 51, 52] (by decide +kernel) (by decide +kernel)
set_option maxRecDepth 20000 in
theorem gX8_walk_X8_isPerson : GoodIn wsX8_walk (wsV RX8 122 RX8 yX8_isPerson wsX8_isPerson) := goodIn_app (goodIn_of _ (by decide +kernel)) ggX8_walk_X8_isPerson
set_option maxRecDepth 20000 in
theorem ggX8_walk_X8_in : GoodIn wsX8_walk wsX8_in := goodIn_r _ [10] (by decide +kernel) (by decide +kernel)
set_option maxRecDepth 20000 in
theorem gX8_walk_X8_in : GoodIn wsX8_walk (va_wsS RX8 57 yX8_in wsX8_in) := goodIn_app (goodIn_of _ (by decide +kernel)) ggX8_walk_X8_in
set_option maxRecDepth 20000 in
theorem ggX8_walk_X8_copyNow : GoodIn wsX8_walk wsX8_copyNow := goodIn_r _ [14, 15, 1, 34, 35, 36, 37, 38, 39, 40, 41, 42, 43, 44, 45, 46, 47, 48, 49, 50, 51, 52] (by decide +kernel) (by decide +kernel)
set_option maxRecDepth 20000 in
theorem gX8_walk_X8_copyNow : GoodIn wsX8_walk (wsV RX8 162 RX8 yX8_copyNow wsX8_copyNow) := goodIn_app (goodIn_of _ (by decide +kernel)) ggX8_walk_X8_copyNow
set_option maxRecDepth 20000 in
theorem ggX8_walk_X8_walks : GoodIn wsX8_walk wsX8_walks := goodIn_r _ [19, 7, 20, 21, 5, 22, 8, 9, 10, 34, 35, 36, 37, 38, 39, 40, 41, 42, 43, 44, 45, 46, 47, 48, 49, 50, 51, 52] (by decide +kernel) (by decide +kernel)
set_option maxRecDepth 20000 in
theorem gX8_walk_X8_walks : GoodIn wsX8_walk (wsV RX8 179 RX8 yX8_walks wsX8_walks) := goodIn_app (goodIn_of _ (by decide +kernel)) ggX8_walk_X8_walks
set_option maxRecDepth 20000 in
theorem ggX8_walk_X8_done : GoodIn wsX8_walk wsX8_done := goodIn_r _ [26, 27, 28, 29, 5, 30, 31, 32, 15, 33, 34, 35, 36, 37, 38, 39, 40, 41, 42, 43, 44, 45, 46, 47, 48, 49, 50, 51, 52] (by decide +kernel) (by decide +kernel)
set_option maxRecDepth 20000 in
theorem gX8_walk_X8_done : GoodIn wsX8_walk (wsV RX8 169 RX8 yX8_done wsX8_done) := goodIn_app (goodIn_of _ (by decide +kernel)) ggX8_walk_X8_done
theorem dX8_walk_0 : decode cX8_walk 0 = .ok (.aload_n 0, 1) := by decide +kernel
theorem dX8_walk_1 : decode cX8_walk 1 = .ok (.iload_n 1, 1) := by decide +kernel
theorem dX8_walk_2 : decode cX8_walk 2 = .ok (.invokevirtual 122, 3) := by decide +kernel
theorem dX8_walk_5 : decode cX8_walk 5 = .ok (.ifCond .eq 12, 3) := by decide +kernel
theorem dX8_walk_8 : decode cX8_walk 8 = .ok (.iload_n 2, 1) := by decide +kernel
theorem dX8_walk_9 : decode cX8_walk 9 = .ok (.iconst 0, 1) := by decide +kernel
theorem dX8_walk_10 : decode cX8_walk 10 = .ok (.iconst 1, 1) := by decide +kernel
theorem dX8_walk_11 : decode cX8_walk 11 = .ok (.invokestatic 57, 3) := by decide +kernel
theorem dX8_walk_14 : decode cX8_walk 14 = .ok (.ifCond .ne 5, 3) := by decide +kernel
theorem dX8_walk_17 : decode cX8_walk 17 = .ok (.iconst (-1), 1) := by decide +kernel
theorem dX8_walk_18 : decode cX8_walk 18 = .ok (.ireturn, 1) := by decide +kernel
theorem dX8_walk_19 : decode cX8_walk 19 = .ok (.aload_n 0, 1) := by decide +kernel
theorem dX8_walk_20 : decode cX8_walk 20 = .ok (.invokevirtual 162, 3) := by decide +kernel
theorem dX8_walk_23 : decode cX8_walk 23 = .ok (.aload_n 0, 1) := by decide +kernel
theorem dX8_walk_24 : decode cX8_walk 24 = .ok (.aload_n 0, 1) := by decide +kernel
theorem dX8_walk_25 : decode cX8_walk 25 = .ok (.getfield 25, 3) := by decide +kernel
theorem dX8_walk_28 : decode cX8_walk 28 = .ok (.iload_n 1, 1) := by decide +kernel
theorem dX8_walk_29 : decode cX8_walk 29 = .ok (.iload_n 2, 1) := by decide +kernel
theorem dX8_walk_30 : decode cX8_walk 30 = .ok (.invokevirtual 179, 3) := by decide +kernel
theorem dX8_walk_33 : decode cX8_walk 33 = .ok (.istore_n 3, 1) := by decide +kernel
theorem dX8_walk_34 : decode cX8_walk 34 = .ok (.aload_n 0, 1) := by decide +kernel
theorem dX8_walk_35 : decode cX8_walk 35 = .ok (.iload_n 3, 1) := by decide +kernel
theorem dX8_walk_36 : decode cX8_walk 36 = .ok (.aload_n 0, 1) := by decide +kernel
theorem dX8_walk_37 : decode cX8_walk 37 = .ok (.getfield 25, 3) := by decide +kernel
theorem dX8_walk_40 : decode cX8_walk 40 = .ok (.bipush 16, 2) := by decide +kernel
theorem dX8_walk_42 : decode cX8_walk 42 = .ok (.iload_n 1, 1) := by decide +kernel
theorem dX8_walk_43 : decode cX8_walk 43 = .ok (.iadd, 1) := by decide +kernel
theorem dX8_walk_44 : decode cX8_walk 44 = .ok (.iaload, 1) := by decide +kernel
theorem dX8_walk_45 : decode cX8_walk 45 = .ok (.invokevirtual 169, 3) := by decide +kernel
theorem dX8_walk_48 : decode cX8_walk 48 = .ok (.ireturn, 1) := by decide +kernel
set_option maxRecDepth 20000 in
theorem ggX8_mend_X8_isParasol : GoodIn wsX8_mend wsX8_isParasol := goodIn_r _ [7, 8, 9, 10, 6, 11, 35, 36, 37, 38, 39, 40, 41, 42, 43, 44, 45, 46, 47, 48, 49, 50, 51, 52, 53] (by decide +kernel) (by decide +kernel)
set_option maxRecDepth 20000 in
theorem gX8_mend_X8_isParasol : GoodIn wsX8_mend (wsV RX8 112 RX8 yX8_isParasol wsX8_isParasol) := goodIn_app (goodIn_of _ (by decide +kernel)) ggX8_mend_X8_isParasol
set_option maxRecDepth 20000 in
theorem ggX8_mend_X8_copyNow : GoodIn wsX8_mend wsX8_copyNow := goodIn_r _ [15, 2, 1, 35, 36, 37, 38, 39, 40, 41, 42, 43, 44, 45, 46, 47, 48, 49, 50, 51, 52, 53] (by decide +kernel) (by decide +kernel)
set_option maxRecDepth 20000 in
theorem gX8_mend_X8_copyNow : GoodIn wsX8_mend (wsV RX8 162 RX8 yX8_copyNow wsX8_copyNow) := goodIn_app (goodIn_of _ (by decide +kernel)) ggX8_mend_X8_copyNow
set_option maxRecDepth 20000 in
theorem ggX8_mend_X8_mends : GoodIn wsX8_mend wsX8_mends := goodIn_r _ [19, 20, 21, 22, 6, 23, 8, 35, 36, 37, 38, 39, 40, 41, 42, 43, 44, 45, 46, 47, 48, 49, 50, 51, 52, 53] (by decide +kernel) (by decide +kernel)
set_option maxRecDepth 20000 in
theorem gX8_mend_X8_mends : GoodIn wsX8_mend (wsV RX8 182 RX8 yX8_mends wsX8_mends) := goodIn_app (goodIn_of _ (by decide +kernel)) ggX8_mend_X8_mends
set_option maxRecDepth 20000 in
theorem ggX8_mend_X8_done : GoodIn wsX8_mend wsX8_done := goodIn_r _ [27, 28, 29, 30, 6, 31, 32, 33, 2, 34, 35, 36, 37, 38, 39, 40, 41, 42, 43, 44, 45, 46, 47, 48, 49, 50, 51, 52, 53] (by decide +kernel) (by decide +kernel)
set_option maxRecDepth 20000 in
theorem gX8_mend_X8_done : GoodIn wsX8_mend (wsV RX8 169 RX8 yX8_done wsX8_done) := goodIn_app (goodIn_of _ (by decide +kernel)) ggX8_mend_X8_done
theorem dX8_mend_0 : decode cX8_mend 0 = .ok (.aload_n 0, 1) := by decide +kernel
theorem dX8_mend_1 : decode cX8_mend 1 = .ok (.iload_n 1, 1) := by decide +kernel
theorem dX8_mend_2 : decode cX8_mend 2 = .ok (.invokevirtual 112, 3) := by decide +kernel
theorem dX8_mend_5 : decode cX8_mend 5 = .ok (.ifCond .ne 5, 3) := by decide +kernel
theorem dX8_mend_8 : decode cX8_mend 8 = .ok (.iconst (-1), 1) := by decide +kernel
theorem dX8_mend_9 : decode cX8_mend 9 = .ok (.ireturn, 1) := by decide +kernel
theorem dX8_mend_10 : decode cX8_mend 10 = .ok (.aload_n 0, 1) := by decide +kernel
theorem dX8_mend_11 : decode cX8_mend 11 = .ok (.invokevirtual 162, 3) := by decide +kernel
theorem dX8_mend_14 : decode cX8_mend 14 = .ok (.aload_n 0, 1) := by decide +kernel
theorem dX8_mend_15 : decode cX8_mend 15 = .ok (.aload_n 0, 1) := by decide +kernel
theorem dX8_mend_16 : decode cX8_mend 16 = .ok (.aload_n 0, 1) := by decide +kernel
theorem dX8_mend_17 : decode cX8_mend 17 = .ok (.getfield 25, 3) := by decide +kernel
theorem dX8_mend_20 : decode cX8_mend 20 = .ok (.iload_n 1, 1) := by decide +kernel
theorem dX8_mend_21 : decode cX8_mend 21 = .ok (.invokevirtual 182, 3) := by decide +kernel
theorem dX8_mend_24 : decode cX8_mend 24 = .ok (.aload_n 0, 1) := by decide +kernel
theorem dX8_mend_25 : decode cX8_mend 25 = .ok (.getfield 28, 3) := by decide +kernel
theorem dX8_mend_28 : decode cX8_mend 28 = .ok (.bipush 10, 2) := by decide +kernel
theorem dX8_mend_30 : decode cX8_mend 30 = .ok (.iload_n 1, 1) := by decide +kernel
theorem dX8_mend_31 : decode cX8_mend 31 = .ok (.iadd, 1) := by decide +kernel
theorem dX8_mend_32 : decode cX8_mend 32 = .ok (.iaload, 1) := by decide +kernel
theorem dX8_mend_33 : decode cX8_mend 33 = .ok (.invokevirtual 169, 3) := by decide +kernel
theorem dX8_mend_36 : decode cX8_mend 36 = .ok (.ireturn, 1) := by decide +kernel
set_option maxRecDepth 20000 in
theorem ggX8_pass_X8_in : GoodIn wsX8_pass wsX8_in := goodIn_r _ [5] (by decide +kernel) (by decide +kernel)
set_option maxRecDepth 20000 in
theorem gX8_pass_X8_in : GoodIn wsX8_pass (va_wsS RX8 57 yX8_in wsX8_in) := goodIn_app (goodIn_of _ (by decide +kernel)) ggX8_pass_X8_in
set_option maxRecDepth 20000 in
theorem ggX8_pass_X8_copyNow : GoodIn wsX8_pass wsX8_copyNow := goodIn_r _ [9, 10, 1, 59, 60, 61, 62, 63, 64, 65, 66, 67, 68, 69, 70, 71, 72, 73, 74, 75, 76, 77] (by decide +kernel) (by decide +kernel)
set_option maxRecDepth 20000 in
theorem gX8_pass_X8_copyNow : GoodIn wsX8_pass (wsV RX8 162 RX8 yX8_copyNow wsX8_copyNow) := goodIn_app (goodIn_of _ (by decide +kernel)) ggX8_pass_X8_copyNow
set_option maxRecDepth 20000 in
theorem ggX8_pass_X8_remember : GoodIn wsX8_pass wsX8_remember := goodIn_r _ [14, 15, 16, 10, 17, 59, 60, 61, 62, 63, 64, 65, 66, 67, 68, 69, 70, 71, 72, 73, 74, 75, 76, 77] (by decide +kernel) (by decide +kernel)
set_option maxRecDepth 20000 in
theorem gX8_pass_X8_remember : GoodIn wsX8_pass (wsV RX8 159 RX8 yX8_remember wsX8_remember) := goodIn_app (goodIn_of _ (by decide +kernel)) ggX8_pass_X8_remember
set_option maxRecDepth 20000 in
theorem ggX8_pass_X8_goes : GoodIn wsX8_pass wsX8_goes := goodIn_r _ [21, 22, 23, 24, 25, 4, 26, 27, 28, 29, 30, 31, 32, 33, 34, 35, 36, 37, 38, 39, 40, 41, 42, 43, 44, 45, 46, 47, 48, 49, 50, 51, 52, 53, 54, 55, 56, 57, 58, 59, 60, 61, 62, 63, 64, 65, 66, 67, 68, 69, 70, 71, 72, 73, 74, 75, 76, 77] (by decide +kernel) (by decide +kernel)
set_option maxRecDepth 20000 in
theorem gX8_pass_X8_goes : GoodIn wsX8_pass (wsV RX8 185 RX8 yX8_goes wsX8_goes) := goodIn_app (goodIn_of _ (by decide +kernel)) ggX8_pass_X8_goes
theorem dX8_pass_0 : decode cX8_pass 0 = .ok (.iload_n 1, 1) := by decide +kernel
theorem dX8_pass_1 : decode cX8_pass 1 = .ok (.iconst 1, 1) := by decide +kernel
theorem dX8_pass_2 : decode cX8_pass 2 = .ok (.bipush 24, 2) := by decide +kernel
theorem dX8_pass_4 : decode cX8_pass 4 = .ok (.invokestatic 57, 3) := by decide +kernel
theorem dX8_pass_7 : decode cX8_pass 7 = .ok (.ifCond .ne 5, 3) := by decide +kernel
theorem dX8_pass_10 : decode cX8_pass 10 = .ok (.iconst (-1), 1) := by decide +kernel
theorem dX8_pass_11 : decode cX8_pass 11 = .ok (.ireturn, 1) := by decide +kernel
theorem dX8_pass_12 : decode cX8_pass 12 = .ok (.aload_n 0, 1) := by decide +kernel
theorem dX8_pass_13 : decode cX8_pass 13 = .ok (.invokevirtual 162, 3) := by decide +kernel
theorem dX8_pass_16 : decode cX8_pass 16 = .ok (.aload_n 0, 1) := by decide +kernel
theorem dX8_pass_17 : decode cX8_pass 17 = .ok (.invokevirtual 159, 3) := by decide +kernel
theorem dX8_pass_20 : decode cX8_pass 20 = .ok (.iconst 0, 1) := by decide +kernel
theorem dX8_pass_21 : decode cX8_pass 21 = .ok (.istore_n 2, 1) := by decide +kernel
theorem dX8_pass_22 : decode cX8_pass 22 = .ok (.iload_n 2, 1) := by decide +kernel
theorem dX8_pass_23 : decode cX8_pass 23 = .ok (.iload_n 1, 1) := by decide +kernel
theorem dX8_pass_24 : decode cX8_pass 24 = .ok (.if_icmp .ge 17, 3) := by decide +kernel
theorem dX8_pass_27 : decode cX8_pass 27 = .ok (.aload_n 0, 1) := by decide +kernel
theorem dX8_pass_28 : decode cX8_pass 28 = .ok (.aload_n 0, 1) := by decide +kernel
theorem dX8_pass_29 : decode cX8_pass 29 = .ok (.getfield 25, 3) := by decide +kernel
theorem dX8_pass_32 : decode cX8_pass 32 = .ok (.invokevirtual 185, 3) := by decide +kernel
theorem dX8_pass_35 : decode cX8_pass 35 = .ok (.iinc 2 1, 3) := by decide +kernel
theorem dX8_pass_38 : decode cX8_pass 38 = .ok (.goto (-16), 3) := by decide +kernel
theorem dX8_pass_41 : decode cX8_pass 41 = .ok (.aload_n 0, 1) := by decide +kernel
theorem dX8_pass_42 : decode cX8_pass 42 = .ok (.getfield 25, 3) := by decide +kernel
theorem dX8_pass_45 : decode cX8_pass 45 = .ok (.iconst 0, 1) := by decide +kernel
theorem dX8_pass_46 : decode cX8_pass 46 = .ok (.iaload, 1) := by decide +kernel
theorem dX8_pass_47 : decode cX8_pass 47 = .ok (.ireturn, 1) := by decide +kernel
theorem dX8_undo_0 : decode cX8_undo 0 = .ok (.aload_n 0, 1) := by decide +kernel
theorem dX8_undo_1 : decode cX8_undo 1 = .ok (.getfield 99, 3) := by decide +kernel
theorem dX8_undo_4 : decode cX8_undo 4 = .ok (.ifCond .ne 6, 3) := by decide +kernel
theorem dX8_undo_7 : decode cX8_undo 7 = .ok (.bipush (-2), 2) := by decide +kernel
theorem dX8_undo_9 : decode cX8_undo 9 = .ok (.ireturn, 1) := by decide +kernel
theorem dX8_undo_10 : decode cX8_undo 10 = .ok (.aload_n 0, 1) := by decide +kernel
theorem dX8_undo_11 : decode cX8_undo 11 = .ok (.aload_n 0, 1) := by decide +kernel
theorem dX8_undo_12 : decode cX8_undo 12 = .ok (.getfield 156, 3) := by decide +kernel
theorem dX8_undo_15 : decode cX8_undo 15 = .ok (.bipush 8, 2) := by decide +kernel
theorem dX8_undo_17 : decode cX8_undo 17 = .ok (.iadd, 1) := by decide +kernel
theorem dX8_undo_18 : decode cX8_undo 18 = .ok (.iconst 1, 1) := by decide +kernel
theorem dX8_undo_19 : decode cX8_undo 19 = .ok (.isub, 1) := by decide +kernel
theorem dX8_undo_20 : decode cX8_undo 20 = .ok (.bipush 8, 2) := by decide +kernel
theorem dX8_undo_22 : decode cX8_undo 22 = .ok (.irem, 1) := by decide +kernel
theorem dX8_undo_23 : decode cX8_undo 23 = .ok (.putfield 156, 3) := by decide +kernel
theorem dX8_undo_26 : decode cX8_undo 26 = .ok (.aload_n 0, 1) := by decide +kernel
theorem dX8_undo_27 : decode cX8_undo 27 = .ok (.dup, 1) := by decide +kernel
theorem dX8_undo_28 : decode cX8_undo 28 = .ok (.getfield 99, 3) := by decide +kernel
theorem dX8_undo_31 : decode cX8_undo 31 = .ok (.iconst 1, 1) := by decide +kernel
theorem dX8_undo_32 : decode cX8_undo 32 = .ok (.isub, 1) := by decide +kernel
theorem dX8_undo_33 : decode cX8_undo 33 = .ok (.putfield 99, 3) := by decide +kernel
theorem dX8_undo_36 : decode cX8_undo 36 = .ok (.iconst 0, 1) := by decide +kernel
theorem dX8_undo_37 : decode cX8_undo 37 = .ok (.istore_n 1, 1) := by decide +kernel
theorem dX8_undo_38 : decode cX8_undo 38 = .ok (.iload_n 1, 1) := by decide +kernel
theorem dX8_undo_39 : decode cX8_undo 39 = .ok (.bipush 26, 2) := by decide +kernel
theorem dX8_undo_41 : decode cX8_undo 41 = .ok (.if_icmp .ge 29, 3) := by decide +kernel
theorem dX8_undo_44 : decode cX8_undo 44 = .ok (.aload_n 0, 1) := by decide +kernel
theorem dX8_undo_45 : decode cX8_undo 45 = .ok (.getfield 25, 3) := by decide +kernel
theorem dX8_undo_48 : decode cX8_undo 48 = .ok (.iload_n 1, 1) := by decide +kernel
theorem dX8_undo_49 : decode cX8_undo 49 = .ok (.aload_n 0, 1) := by decide +kernel
theorem dX8_undo_50 : decode cX8_undo 50 = .ok (.getfield 31, 3) := by decide +kernel
theorem dX8_undo_53 : decode cX8_undo 53 = .ok (.bipush 26, 2) := by decide +kernel
theorem dX8_undo_55 : decode cX8_undo 55 = .ok (.aload_n 0, 1) := by decide +kernel
theorem dX8_undo_56 : decode cX8_undo 56 = .ok (.getfield 156, 3) := by decide +kernel
theorem dX8_undo_59 : decode cX8_undo 59 = .ok (.imul, 1) := by decide +kernel
theorem dX8_undo_60 : decode cX8_undo 60 = .ok (.iload_n 1, 1) := by decide +kernel
theorem dX8_undo_61 : decode cX8_undo 61 = .ok (.iadd, 1) := by decide +kernel
theorem dX8_undo_62 : decode cX8_undo 62 = .ok (.iaload, 1) := by decide +kernel
theorem dX8_undo_63 : decode cX8_undo 63 = .ok (.iastore, 1) := by decide +kernel
theorem dX8_undo_64 : decode cX8_undo 64 = .ok (.iinc 1 1, 3) := by decide +kernel
theorem dX8_undo_67 : decode cX8_undo 67 = .ok (.goto (-29), 3) := by decide +kernel
theorem dX8_undo_70 : decode cX8_undo 70 = .ok (.aload_n 0, 1) := by decide +kernel
theorem dX8_undo_71 : decode cX8_undo 71 = .ok (.getfield 99, 3) := by decide +kernel
theorem dX8_undo_74 : decode cX8_undo 74 = .ok (.ireturn, 1) := by decide +kernel
set_option maxRecDepth 20000 in
theorem ggX8_onward_X8_goesOn : GoodIn wsX8_onward wsX8_goesOn := goodIn_r _ [6, 7, 8, 9, 10, 11, 12, 13, 14, 15, 16, 17, 18, 19, 20, 21, 22, 23, 24, 25, 26] (by decide +kernel) (by decide +kernel)
set_option maxRecDepth 20000 in
theorem gX8_onward_X8_goesOn : GoodIn wsX8_onward (wsV RX8 149 RX8 yX8_goesOn wsX8_goesOn) := goodIn_app (goodIn_of _ (by decide +kernel)) ggX8_onward_X8_goesOn
theorem dX8_onward_0 : decode cX8_onward 0 = .ok (.iload_n 2, 1) := by decide +kernel
theorem dX8_onward_1 : decode cX8_onward 1 = .ok (.istore 4, 2) := by decide +kernel
theorem dX8_onward_3 : decode cX8_onward 3 = .ok (.iconst 0, 1) := by decide +kernel
theorem dX8_onward_4 : decode cX8_onward 4 = .ok (.istore 5, 2) := by decide +kernel
theorem dX8_onward_6 : decode cX8_onward 6 = .ok (.iload 5, 2) := by decide +kernel
theorem dX8_onward_8 : decode cX8_onward 8 = .ok (.iload_n 3, 1) := by decide +kernel
theorem dX8_onward_9 : decode cX8_onward 9 = .ok (.if_icmp .ge 28, 3) := by decide +kernel
theorem dX8_onward_12 : decode cX8_onward 12 = .ok (.iload 4, 2) := by decide +kernel
theorem dX8_onward_14 : decode cX8_onward 14 = .ok (.aload_n 0, 1) := by decide +kernel
theorem dX8_onward_15 : decode cX8_onward 15 = .ok (.iload_n 1, 1) := by decide +kernel
theorem dX8_onward_16 : decode cX8_onward 16 = .ok (.aload_n 0, 1) := by decide +kernel
theorem dX8_onward_17 : decode cX8_onward 17 = .ok (.getfield 25, 3) := by decide +kernel
theorem dX8_onward_20 : decode cX8_onward 20 = .ok (.iconst 0, 1) := by decide +kernel
theorem dX8_onward_21 : decode cX8_onward 21 = .ok (.iaload, 1) := by decide +kernel
theorem dX8_onward_22 : decode cX8_onward 22 = .ok (.iload 5, 2) := by decide +kernel
theorem dX8_onward_24 : decode cX8_onward 24 = .ok (.iadd, 1) := by decide +kernel
theorem dX8_onward_25 : decode cX8_onward 25 = .ok (.invokevirtual 149, 3) := by decide +kernel
theorem dX8_onward_28 : decode cX8_onward 28 = .ok (.iadd, 1) := by decide +kernel
theorem dX8_onward_29 : decode cX8_onward 29 = .ok (.istore 4, 2) := by decide +kernel
theorem dX8_onward_31 : decode cX8_onward 31 = .ok (.iinc 5 1, 3) := by decide +kernel
theorem dX8_onward_34 : decode cX8_onward 34 = .ok (.goto (-28), 3) := by decide +kernel
theorem dX8_onward_37 : decode cX8_onward 37 = .ok (.iload 4, 2) := by decide +kernel
theorem dX8_onward_39 : decode cX8_onward 39 = .ok (.bipush 24, 2) := by decide +kernel
theorem dX8_onward_41 : decode cX8_onward 41 = .ok (.irem, 1) := by decide +kernel
theorem dX8_onward_42 : decode cX8_onward 42 = .ok (.ireturn, 1) := by decide +kernel
set_option maxRecDepth 20000 in
theorem ggX8_untilHour_X8_onward : GoodIn wsX8_untilHour wsX8_onward := goodIn_r _ [6, 1, 7, 8, 9, 5, 10, 11, 12, 13, 14, 15, 16, 17, 18, 19, 20, 21, 22, 23, 24, 25, 26, 27, 28, 29, 30] (by decide +kernel) (by decide +kernel)
set_option maxRecDepth 20000 in
theorem gX8_untilHour_X8_onward : GoodIn wsX8_untilHour (wsV RX8 189 RX8 yX8_onward wsX8_onward) := goodIn_app (goodIn_of _ (by decide +kernel)) ggX8_untilHour_X8_onward
theorem dX8_untilHour_0 : decode cX8_untilHour 0 = .ok (.iconst 0, 1) := by decide +kernel
theorem dX8_untilHour_1 : decode cX8_untilHour 1 = .ok (.istore_n 3, 1) := by decide +kernel
theorem dX8_untilHour_2 : decode cX8_untilHour 2 = .ok (.iload_n 3, 1) := by decide +kernel
theorem dX8_untilHour_3 : decode cX8_untilHour 3 = .ok (.bipush 48, 2) := by decide +kernel
theorem dX8_untilHour_5 : decode cX8_untilHour 5 = .ok (.if_icmp .gt 29, 3) := by decide +kernel
theorem dX8_untilHour_8 : decode cX8_untilHour 8 = .ok (.aload_n 0, 1) := by decide +kernel
theorem dX8_untilHour_9 : decode cX8_untilHour 9 = .ok (.iload_n 1, 1) := by decide +kernel
theorem dX8_untilHour_10 : decode cX8_untilHour 10 = .ok (.aload_n 0, 1) := by decide +kernel
theorem dX8_untilHour_11 : decode cX8_untilHour 11 = .ok (.getfield 25, 3) := by decide +kernel
theorem dX8_untilHour_14 : decode cX8_untilHour 14 = .ok (.iconst 4, 1) := by decide +kernel
theorem dX8_untilHour_15 : decode cX8_untilHour 15 = .ok (.iload_n 1, 1) := by decide +kernel
theorem dX8_untilHour_16 : decode cX8_untilHour 16 = .ok (.iadd, 1) := by decide +kernel
theorem dX8_untilHour_17 : decode cX8_untilHour 17 = .ok (.iaload, 1) := by decide +kernel
theorem dX8_untilHour_18 : decode cX8_untilHour 18 = .ok (.iload_n 3, 1) := by decide +kernel
theorem dX8_untilHour_19 : decode cX8_untilHour 19 = .ok (.invokevirtual 189, 3) := by decide +kernel
theorem dX8_untilHour_22 : decode cX8_untilHour 22 = .ok (.iload_n 2, 1) := by decide +kernel
theorem dX8_untilHour_23 : decode cX8_untilHour 23 = .ok (.if_icmp .ne 5, 3) := by decide +kernel
theorem dX8_untilHour_26 : decode cX8_untilHour 26 = .ok (.iload_n 3, 1) := by decide +kernel
theorem dX8_untilHour_27 : decode cX8_untilHour 27 = .ok (.ireturn, 1) := by decide +kernel
theorem dX8_untilHour_28 : decode cX8_untilHour 28 = .ok (.iinc 3 1, 3) := by decide +kernel
theorem dX8_untilHour_31 : decode cX8_untilHour 31 = .ok (.goto (-29), 3) := by decide +kernel
theorem dX8_untilHour_34 : decode cX8_untilHour 34 = .ok (.bipush (-4), 2) := by decide +kernel
theorem dX8_untilHour_36 : decode cX8_untilHour 36 = .ok (.ireturn, 1) := by decide +kernel
set_option maxRecDepth 20000 in
theorem ggX8_until_X8_isParasol : GoodIn wsX8_until wsX8_isParasol := goodIn_r _ [5, 6, 7, 8, 4, 9, 26, 27, 28, 29, 30, 31, 32, 33, 34, 35, 36, 37, 38, 39, 40, 41, 42, 43, 44] (by decide +kernel) (by decide +kernel)
set_option maxRecDepth 20000 in
theorem gX8_until_X8_isParasol : GoodIn wsX8_until (wsV RX8 112 RX8 yX8_isParasol wsX8_isParasol) := goodIn_app (goodIn_of _ (by decide +kernel)) ggX8_until_X8_isParasol
set_option maxRecDepth 20000 in
theorem ggX8_until_X8_isHour : GoodIn wsX8_until wsX8_isHour := goodIn_r _ [12, 7, 8, 4, 9] (by decide +kernel) (by decide +kernel)
set_option maxRecDepth 20000 in
theorem gX8_until_X8_isHour : GoodIn wsX8_until (va_wsS RX8 193 yX8_isHour wsX8_isHour) := goodIn_app (goodIn_of _ (by decide +kernel)) ggX8_until_X8_isHour
set_option maxRecDepth 20000 in
theorem ggX8_until_X8_untilHour : GoodIn wsX8_until wsX8_untilHour := goodIn_r _ [16, 17, 18, 19, 20, 4, 21, 22, 23, 24, 25, 6, 26, 27, 28, 29, 30, 31, 32, 33, 34, 35, 36, 37, 38, 39, 40, 41, 42, 43, 44] (by decide +kernel) (by decide +kernel)
set_option maxRecDepth 20000 in
theorem gX8_until_X8_untilHour : GoodIn wsX8_until (wsV RX8 196 RX8 yX8_untilHour wsX8_untilHour) := goodIn_app (goodIn_of _ (by decide +kernel)) ggX8_until_X8_untilHour
theorem dX8_until_0 : decode cX8_until 0 = .ok (.aload_n 0, 1) := by decide +kernel
theorem dX8_until_1 : decode cX8_until 1 = .ok (.iload_n 1, 1) := by decide +kernel
theorem dX8_until_2 : decode cX8_until 2 = .ok (.invokevirtual 112, 3) := by decide +kernel
theorem dX8_until_5 : decode cX8_until 5 = .ok (.ifCond .eq 19, 3) := by decide +kernel
theorem dX8_until_8 : decode cX8_until 8 = .ok (.iload_n 2, 1) := by decide +kernel
theorem dX8_until_9 : decode cX8_until 9 = .ok (.invokestatic 193, 3) := by decide +kernel
theorem dX8_until_12 : decode cX8_until 12 = .ok (.ifCond .eq 12, 3) := by decide +kernel
theorem dX8_until_15 : decode cX8_until 15 = .ok (.aload_n 0, 1) := by decide +kernel
theorem dX8_until_16 : decode cX8_until 16 = .ok (.iload_n 1, 1) := by decide +kernel
theorem dX8_until_17 : decode cX8_until 17 = .ok (.iload_n 2, 1) := by decide +kernel
theorem dX8_until_18 : decode cX8_until 18 = .ok (.invokevirtual 196, 3) := by decide +kernel
theorem dX8_until_21 : decode cX8_until 21 = .ok (.goto 4, 3) := by decide +kernel
theorem dX8_until_24 : decode cX8_until 24 = .ok (.iconst (-1), 1) := by decide +kernel
theorem dX8_until_25 : decode cX8_until 25 = .ok (.ireturn, 1) := by decide +kernel
set_option maxRecDepth 20000 in
theorem ggX8_agree_X8_isParasol : GoodIn wsX8_agree wsX8_isParasol := goodIn_r _ [6, 7, 8, 9, 5, 10, 19, 20, 21, 22, 23, 24, 25, 26, 27, 28, 29, 30, 31, 32, 33, 34, 35, 36, 37] (by decide +kernel) (by decide +kernel)
set_option maxRecDepth 20000 in
theorem gX8_agree_X8_isParasol : GoodIn wsX8_agree (wsV RX8 112 RX8 yX8_isParasol wsX8_isParasol) := goodIn_app (goodIn_of _ (by decide +kernel)) ggX8_agree_X8_isParasol
set_option maxRecDepth 20000 in
theorem ggX8_agree_X8_onward : GoodIn wsX8_agree wsX8_onward := goodIn_r _ [14, 1, 15, 16, 17, 5, 18, 7, 19, 20, 21, 22, 23, 24, 25, 26, 27, 28, 29, 30, 31, 32, 33, 34, 35, 36, 37] (by decide +kernel) (by decide +kernel)
set_option maxRecDepth 20000 in
theorem gX8_agree_X8_onward : GoodIn wsX8_agree (wsV RX8 189 RX8 yX8_onward wsX8_onward) := goodIn_app (goodIn_of _ (by decide +kernel)) ggX8_agree_X8_onward
theorem dX8_agree_0 : decode cX8_agree 0 = .ok (.aload_n 0, 1) := by decide +kernel
theorem dX8_agree_1 : decode cX8_agree 1 = .ok (.iload_n 1, 1) := by decide +kernel
theorem dX8_agree_2 : decode cX8_agree 2 = .ok (.invokevirtual 112, 3) := by decide +kernel
theorem dX8_agree_5 : decode cX8_agree 5 = .ok (.ifCond .eq 16, 3) := by decide +kernel
theorem dX8_agree_8 : decode cX8_agree 8 = .ok (.aload_n 0, 1) := by decide +kernel
theorem dX8_agree_9 : decode cX8_agree 9 = .ok (.iload_n 2, 1) := by decide +kernel
theorem dX8_agree_10 : decode cX8_agree 10 = .ok (.invokevirtual 112, 3) := by decide +kernel
theorem dX8_agree_13 : decode cX8_agree 13 = .ok (.ifCond .eq 8, 3) := by decide +kernel
theorem dX8_agree_16 : decode cX8_agree 16 = .ok (.iload_n 1, 1) := by decide +kernel
theorem dX8_agree_17 : decode cX8_agree 17 = .ok (.iload_n 2, 1) := by decide +kernel
theorem dX8_agree_18 : decode cX8_agree 18 = .ok (.if_icmp .ne 5, 3) := by decide +kernel
theorem dX8_agree_21 : decode cX8_agree 21 = .ok (.iconst (-1), 1) := by decide +kernel
theorem dX8_agree_22 : decode cX8_agree 22 = .ok (.ireturn, 1) := by decide +kernel
theorem dX8_agree_23 : decode cX8_agree 23 = .ok (.iconst 0, 1) := by decide +kernel
theorem dX8_agree_24 : decode cX8_agree 24 = .ok (.istore_n 3, 1) := by decide +kernel
theorem dX8_agree_25 : decode cX8_agree 25 = .ok (.iload_n 3, 1) := by decide +kernel
theorem dX8_agree_26 : decode cX8_agree 26 = .ok (.bipush 48, 2) := by decide +kernel
theorem dX8_agree_28 : decode cX8_agree 28 = .ok (.if_icmp .gt 42, 3) := by decide +kernel
theorem dX8_agree_31 : decode cX8_agree 31 = .ok (.aload_n 0, 1) := by decide +kernel
theorem dX8_agree_32 : decode cX8_agree 32 = .ok (.iload_n 1, 1) := by decide +kernel
theorem dX8_agree_33 : decode cX8_agree 33 = .ok (.aload_n 0, 1) := by decide +kernel
theorem dX8_agree_34 : decode cX8_agree 34 = .ok (.getfield 25, 3) := by decide +kernel
theorem dX8_agree_37 : decode cX8_agree 37 = .ok (.iconst 4, 1) := by decide +kernel
theorem dX8_agree_38 : decode cX8_agree 38 = .ok (.iload_n 1, 1) := by decide +kernel
theorem dX8_agree_39 : decode cX8_agree 39 = .ok (.iadd, 1) := by decide +kernel
theorem dX8_agree_40 : decode cX8_agree 40 = .ok (.iaload, 1) := by decide +kernel
theorem dX8_agree_41 : decode cX8_agree 41 = .ok (.iload_n 3, 1) := by decide +kernel
theorem dX8_agree_42 : decode cX8_agree 42 = .ok (.invokevirtual 189, 3) := by decide +kernel
theorem dX8_agree_45 : decode cX8_agree 45 = .ok (.aload_n 0, 1) := by decide +kernel
theorem dX8_agree_46 : decode cX8_agree 46 = .ok (.iload_n 2, 1) := by decide +kernel
theorem dX8_agree_47 : decode cX8_agree 47 = .ok (.aload_n 0, 1) := by decide +kernel
theorem dX8_agree_48 : decode cX8_agree 48 = .ok (.getfield 25, 3) := by decide +kernel
theorem dX8_agree_51 : decode cX8_agree 51 = .ok (.iconst 4, 1) := by decide +kernel
theorem dX8_agree_52 : decode cX8_agree 52 = .ok (.iload_n 2, 1) := by decide +kernel
theorem dX8_agree_53 : decode cX8_agree 53 = .ok (.iadd, 1) := by decide +kernel
theorem dX8_agree_54 : decode cX8_agree 54 = .ok (.iaload, 1) := by decide +kernel
theorem dX8_agree_55 : decode cX8_agree 55 = .ok (.iload_n 3, 1) := by decide +kernel
theorem dX8_agree_56 : decode cX8_agree 56 = .ok (.invokevirtual 189, 3) := by decide +kernel
theorem dX8_agree_59 : decode cX8_agree 59 = .ok (.if_icmp .ne 5, 3) := by decide +kernel
theorem dX8_agree_62 : decode cX8_agree 62 = .ok (.iload_n 3, 1) := by decide +kernel
theorem dX8_agree_63 : decode cX8_agree 63 = .ok (.ireturn, 1) := by decide +kernel
theorem dX8_agree_64 : decode cX8_agree 64 = .ok (.iinc 3 1, 3) := by decide +kernel
theorem dX8_agree_67 : decode cX8_agree 67 = .ok (.goto (-42), 3) := by decide +kernel
theorem dX8_agree_70 : decode cX8_agree 70 = .ok (.bipush (-4), 2) := by decide +kernel
theorem dX8_agree_72 : decode cX8_agree 72 = .ok (.ireturn, 1) := by decide +kernel
theorem dX8_dealt_0 : decode cX8_dealt 0 = .ok (.iload_n 1, 1) := by decide +kernel
theorem dX8_dealt_1 : decode cX8_dealt 1 = .ok (.istore_n 3, 1) := by decide +kernel
theorem dX8_dealt_2 : decode cX8_dealt 2 = .ok (.aload_n 0, 1) := by decide +kernel
theorem dX8_dealt_3 : decode cX8_dealt 3 = .ok (.getfield 22, 3) := by decide +kernel
theorem dX8_dealt_6 : decode cX8_dealt 6 = .ok (.iconst 2, 1) := by decide +kernel
theorem dX8_dealt_7 : decode cX8_dealt 7 = .ok (.iaload, 1) := by decide +kernel
theorem dX8_dealt_8 : decode cX8_dealt 8 = .ok (.iconst 1, 1) := by decide +kernel
theorem dX8_dealt_9 : decode cX8_dealt 9 = .ok (.isub, 1) := by decide +kernel
theorem dX8_dealt_10 : decode cX8_dealt 10 = .ok (.istore 4, 2) := by decide +kernel
theorem dX8_dealt_12 : decode cX8_dealt 12 = .ok (.iload 4, 2) := by decide +kernel
theorem dX8_dealt_14 : decode cX8_dealt 14 = .ok (.iload_n 2, 1) := by decide +kernel
theorem dX8_dealt_15 : decode cX8_dealt 15 = .ok (.if_icmp .le 20, 3) := by decide +kernel
theorem dX8_dealt_18 : decode cX8_dealt 18 = .ok (.iload_n 3, 1) := by decide +kernel
theorem dX8_dealt_19 : decode cX8_dealt 19 = .ok (.aload_n 0, 1) := by decide +kernel
theorem dX8_dealt_20 : decode cX8_dealt 20 = .ok (.getfield 22, 3) := by decide +kernel
theorem dX8_dealt_23 : decode cX8_dealt 23 = .ok (.iconst 1, 1) := by decide +kernel
theorem dX8_dealt_24 : decode cX8_dealt 24 = .ok (.iaload, 1) := by decide +kernel
theorem dX8_dealt_25 : decode cX8_dealt 25 = .ok (.iconst 1, 1) := by decide +kernel
theorem dX8_dealt_26 : decode cX8_dealt 26 = .ok (.iadd, 1) := by decide +kernel
theorem dX8_dealt_27 : decode cX8_dealt 27 = .ok (.idiv, 1) := by decide +kernel
theorem dX8_dealt_28 : decode cX8_dealt 28 = .ok (.istore_n 3, 1) := by decide +kernel
theorem dX8_dealt_29 : decode cX8_dealt 29 = .ok (.iinc 4 (-1), 3) := by decide +kernel
theorem dX8_dealt_32 : decode cX8_dealt 32 = .ok (.goto (-20), 3) := by decide +kernel
theorem dX8_dealt_35 : decode cX8_dealt 35 = .ok (.iload_n 3, 1) := by decide +kernel
theorem dX8_dealt_36 : decode cX8_dealt 36 = .ok (.aload_n 0, 1) := by decide +kernel
theorem dX8_dealt_37 : decode cX8_dealt 37 = .ok (.getfield 22, 3) := by decide +kernel
theorem dX8_dealt_40 : decode cX8_dealt 40 = .ok (.iconst 1, 1) := by decide +kernel
theorem dX8_dealt_41 : decode cX8_dealt 41 = .ok (.iaload, 1) := by decide +kernel
theorem dX8_dealt_42 : decode cX8_dealt 42 = .ok (.iconst 1, 1) := by decide +kernel
theorem dX8_dealt_43 : decode cX8_dealt 43 = .ok (.iadd, 1) := by decide +kernel
theorem dX8_dealt_44 : decode cX8_dealt 44 = .ok (.irem, 1) := by decide +kernel
theorem dX8_dealt_45 : decode cX8_dealt 45 = .ok (.ireturn, 1) := by decide +kernel
set_option maxRecDepth 20000 in
theorem ggX8_worksBy_X8_dealt : GoodIn wsX8_worksBy wsX8_dealt := goodIn_r _ [7, 1, 14, 15, 16, 17, 18, 19, 20, 21, 22, 23, 24, 25, 26, 27, 28, 29, 30, 31, 32] (by decide +kernel) (by decide +kernel)
set_option maxRecDepth 20000 in
theorem gX8_worksBy_X8_dealt : GoodIn wsX8_worksBy (wsV RX8 199 RX8 yX8_dealt wsX8_dealt) := goodIn_app (goodIn_of _ (by decide +kernel)) ggX8_worksBy_X8_dealt
set_option maxRecDepth 20000 in
theorem ggX8_worksBy_X8_has : GoodIn wsX8_worksBy wsX8_has := goodIn_r _ [10] (by decide +kernel) (by decide +kernel)
set_option maxRecDepth 20000 in
theorem gX8_worksBy_X8_has : GoodIn wsX8_worksBy (va_wsS RX8 135 yX8_has wsX8_has) := goodIn_app (goodIn_of _ (by decide +kernel)) ggX8_worksBy_X8_has
set_option maxRecDepth 20000 in
theorem ggX8_worksBy_X8_clock : GoodIn wsX8_worksBy wsX8_clock := goodIn_r _ [13] (by decide +kernel) (by decide +kernel)
set_option maxRecDepth 20000 in
theorem gX8_worksBy_X8_clock : GoodIn wsX8_worksBy (va_wsS RX8 108 yX8_clock wsX8_clock) := goodIn_app (goodIn_of _ (by decide +kernel)) ggX8_worksBy_X8_clock
theorem dX8_worksBy_0 : decode cX8_worksBy 0 = .ok (.iconst 0, 1) := by decide +kernel
theorem dX8_worksBy_1 : decode cX8_worksBy 1 = .ok (.istore_n 2, 1) := by decide +kernel
theorem dX8_worksBy_2 : decode cX8_worksBy 2 = .ok (.iconst 0, 1) := by decide +kernel
theorem dX8_worksBy_3 : decode cX8_worksBy 3 = .ok (.istore_n 3, 1) := by decide +kernel
theorem dX8_worksBy_4 : decode cX8_worksBy 4 = .ok (.iload_n 3, 1) := by decide +kernel
theorem dX8_worksBy_5 : decode cX8_worksBy 5 = .ok (.aload_n 0, 1) := by decide +kernel
theorem dX8_worksBy_6 : decode cX8_worksBy 6 = .ok (.getfield 22, 3) := by decide +kernel
theorem dX8_worksBy_9 : decode cX8_worksBy 9 = .ok (.iconst 2, 1) := by decide +kernel
theorem dX8_worksBy_10 : decode cX8_worksBy 10 = .ok (.iaload, 1) := by decide +kernel
theorem dX8_worksBy_11 : decode cX8_worksBy 11 = .ok (.if_icmp .ge 80, 3) := by decide +kernel
theorem dX8_worksBy_14 : decode cX8_worksBy 14 = .ok (.aload_n 0, 1) := by decide +kernel
theorem dX8_worksBy_15 : decode cX8_worksBy 15 = .ok (.iload_n 1, 1) := by decide +kernel
theorem dX8_worksBy_16 : decode cX8_worksBy 16 = .ok (.iload_n 3, 1) := by decide +kernel
theorem dX8_worksBy_17 : decode cX8_worksBy 17 = .ok (.invokevirtual 199, 3) := by decide +kernel
theorem dX8_worksBy_20 : decode cX8_worksBy 20 = .ok (.istore 4, 2) := by decide +kernel
theorem dX8_worksBy_22 : decode cX8_worksBy 22 = .ok (.iload 4, 2) := by decide +kernel
theorem dX8_worksBy_24 : decode cX8_worksBy 24 = .ok (.aload_n 0, 1) := by decide +kernel
theorem dX8_worksBy_25 : decode cX8_worksBy 25 = .ok (.getfield 22, 3) := by decide +kernel
theorem dX8_worksBy_28 : decode cX8_worksBy 28 = .ok (.iconst 1, 1) := by decide +kernel
theorem dX8_worksBy_29 : decode cX8_worksBy 29 = .ok (.iaload, 1) := by decide +kernel
theorem dX8_worksBy_30 : decode cX8_worksBy 30 = .ok (.if_icmp .ne 7, 3) := by decide +kernel
theorem dX8_worksBy_33 : decode cX8_worksBy 33 = .ok (.iconst 1, 1) := by decide +kernel
theorem dX8_worksBy_34 : decode cX8_worksBy 34 = .ok (.goto 4, 3) := by decide +kernel
theorem dX8_worksBy_37 : decode cX8_worksBy 37 = .ok (.iconst 0, 1) := by decide +kernel
theorem dX8_worksBy_38 : decode cX8_worksBy 38 = .ok (.istore 5, 2) := by decide +kernel
theorem dX8_worksBy_40 : decode cX8_worksBy 40 = .ok (.iload 5, 2) := by decide +kernel
theorem dX8_worksBy_42 : decode cX8_worksBy 42 = .ok (.ifCond .ne 27, 3) := by decide +kernel
theorem dX8_worksBy_45 : decode cX8_worksBy 45 = .ok (.aload_n 0, 1) := by decide +kernel
theorem dX8_worksBy_46 : decode cX8_worksBy 46 = .ok (.getfield 25, 3) := by decide +kernel
theorem dX8_worksBy_49 : decode cX8_worksBy 49 = .ok (.iconst 3, 1) := by decide +kernel
theorem dX8_worksBy_50 : decode cX8_worksBy 50 = .ok (.iaload, 1) := by decide +kernel
theorem dX8_worksBy_51 : decode cX8_worksBy 51 = .ok (.iload_n 3, 1) := by decide +kernel
theorem dX8_worksBy_52 : decode cX8_worksBy 52 = .ok (.invokestatic 135, 3) := by decide +kernel
theorem dX8_worksBy_55 : decode cX8_worksBy 55 = .ok (.ifCond .ne 12, 3) := by decide +kernel
theorem dX8_worksBy_58 : decode cX8_worksBy 58 = .ok (.iload_n 2, 1) := by decide +kernel
theorem dX8_worksBy_59 : decode cX8_worksBy 59 = .ok (.iload 4, 2) := by decide +kernel
theorem dX8_worksBy_61 : decode cX8_worksBy 61 = .ok (.invokestatic 135, 3) := by decide +kernel
theorem dX8_worksBy_64 : decode cX8_worksBy 64 = .ok (.ifCond .eq 5, 3) := by decide +kernel
theorem dX8_worksBy_67 : decode cX8_worksBy 67 = .ok (.iconst (-1), 1) := by decide +kernel
theorem dX8_worksBy_68 : decode cX8_worksBy 68 = .ok (.ireturn, 1) := by decide +kernel
theorem dX8_worksBy_69 : decode cX8_worksBy 69 = .ok (.iload_n 2, 1) := by decide +kernel
theorem dX8_worksBy_70 : decode cX8_worksBy 70 = .ok (.iload 5, 2) := by decide +kernel
theorem dX8_worksBy_72 : decode cX8_worksBy 72 = .ok (.ifCond .eq 7, 3) := by decide +kernel
theorem dX8_worksBy_75 : decode cX8_worksBy 75 = .ok (.iconst 0, 1) := by decide +kernel
theorem dX8_worksBy_76 : decode cX8_worksBy 76 = .ok (.goto 7, 3) := by decide +kernel
theorem dX8_worksBy_79 : decode cX8_worksBy 79 = .ok (.iconst 1, 1) := by decide +kernel
theorem dX8_worksBy_80 : decode cX8_worksBy 80 = .ok (.iload 4, 2) := by decide +kernel
theorem dX8_worksBy_82 : decode cX8_worksBy 82 = .ok (.ishl, 1) := by decide +kernel
theorem dX8_worksBy_83 : decode cX8_worksBy 83 = .ok (.ior, 1) := by decide +kernel
theorem dX8_worksBy_84 : decode cX8_worksBy 84 = .ok (.istore_n 2, 1) := by decide +kernel
theorem dX8_worksBy_85 : decode cX8_worksBy 85 = .ok (.iinc 3 1, 3) := by decide +kernel
theorem dX8_worksBy_88 : decode cX8_worksBy 88 = .ok (.goto (-84), 3) := by decide +kernel
theorem dX8_worksBy_91 : decode cX8_worksBy 91 = .ok (.iconst 0, 1) := by decide +kernel
theorem dX8_worksBy_92 : decode cX8_worksBy 92 = .ok (.istore_n 3, 1) := by decide +kernel
theorem dX8_worksBy_93 : decode cX8_worksBy 93 = .ok (.iconst 0, 1) := by decide +kernel
theorem dX8_worksBy_94 : decode cX8_worksBy 94 = .ok (.istore 4, 2) := by decide +kernel
theorem dX8_worksBy_96 : decode cX8_worksBy 96 = .ok (.iload 4, 2) := by decide +kernel
theorem dX8_worksBy_98 : decode cX8_worksBy 98 = .ok (.aload_n 0, 1) := by decide +kernel
theorem dX8_worksBy_99 : decode cX8_worksBy 99 = .ok (.getfield 22, 3) := by decide +kernel
theorem dX8_worksBy_102 : decode cX8_worksBy 102 = .ok (.iconst 3, 1) := by decide +kernel
theorem dX8_worksBy_103 : decode cX8_worksBy 103 = .ok (.iaload, 1) := by decide +kernel
theorem dX8_worksBy_104 : decode cX8_worksBy 104 = .ok (.if_icmp .ge 177, 3) := by decide +kernel
theorem dX8_worksBy_107 : decode cX8_worksBy 107 = .ok (.iconst 0, 1) := by decide +kernel
theorem dX8_worksBy_108 : decode cX8_worksBy 108 = .ok (.istore 5, 2) := by decide +kernel
theorem dX8_worksBy_110 : decode cX8_worksBy 110 = .ok (.iconst 0, 1) := by decide +kernel
theorem dX8_worksBy_111 : decode cX8_worksBy 111 = .ok (.istore 6, 2) := by decide +kernel
theorem dX8_worksBy_113 : decode cX8_worksBy 113 = .ok (.iload 6, 2) := by decide +kernel
theorem dX8_worksBy_115 : decode cX8_worksBy 115 = .ok (.aload_n 0, 1) := by decide +kernel
theorem dX8_worksBy_116 : decode cX8_worksBy 116 = .ok (.getfield 22, 3) := by decide +kernel
theorem dX8_worksBy_119 : decode cX8_worksBy 119 = .ok (.iconst 2, 1) := by decide +kernel
theorem dX8_worksBy_120 : decode cX8_worksBy 120 = .ok (.iaload, 1) := by decide +kernel
theorem dX8_worksBy_121 : decode cX8_worksBy 121 = .ok (.if_icmp .ge 127, 3) := by decide +kernel
theorem dX8_worksBy_124 : decode cX8_worksBy 124 = .ok (.aload_n 0, 1) := by decide +kernel
theorem dX8_worksBy_125 : decode cX8_worksBy 125 = .ok (.iload_n 1, 1) := by decide +kernel
theorem dX8_worksBy_126 : decode cX8_worksBy 126 = .ok (.iload 6, 2) := by decide +kernel
theorem dX8_worksBy_128 : decode cX8_worksBy 128 = .ok (.invokevirtual 199, 3) := by decide +kernel
theorem dX8_worksBy_131 : decode cX8_worksBy 131 = .ok (.istore 7, 2) := by decide +kernel
theorem dX8_worksBy_133 : decode cX8_worksBy 133 = .ok (.aload_n 0, 1) := by decide +kernel
theorem dX8_worksBy_134 : decode cX8_worksBy 134 = .ok (.getfield 25, 3) := by decide +kernel
theorem dX8_worksBy_137 : decode cX8_worksBy 137 = .ok (.iconst 3, 1) := by decide +kernel
theorem dX8_worksBy_138 : decode cX8_worksBy 138 = .ok (.iaload, 1) := by decide +kernel
theorem dX8_worksBy_139 : decode cX8_worksBy 139 = .ok (.iload 6, 2) := by decide +kernel
theorem dX8_worksBy_141 : decode cX8_worksBy 141 = .ok (.invokestatic 135, 3) := by decide +kernel
theorem dX8_worksBy_144 : decode cX8_worksBy 144 = .ok (.ifCond .ne 30, 3) := by decide +kernel
theorem dX8_worksBy_147 : decode cX8_worksBy 147 = .ok (.aload_n 0, 1) := by decide +kernel
theorem dX8_worksBy_148 : decode cX8_worksBy 148 = .ok (.getfield 25, 3) := by decide +kernel
theorem dX8_worksBy_151 : decode cX8_worksBy 151 = .ok (.bipush 16, 2) := by decide +kernel
theorem dX8_worksBy_153 : decode cX8_worksBy 153 = .ok (.iload 6, 2) := by decide +kernel
theorem dX8_worksBy_155 : decode cX8_worksBy 155 = .ok (.iadd, 1) := by decide +kernel
theorem dX8_worksBy_156 : decode cX8_worksBy 156 = .ok (.iaload, 1) := by decide +kernel
theorem dX8_worksBy_157 : decode cX8_worksBy 157 = .ok (.aload_n 0, 1) := by decide +kernel
theorem dX8_worksBy_158 : decode cX8_worksBy 158 = .ok (.getfield 22, 3) := by decide +kernel
theorem dX8_worksBy_161 : decode cX8_worksBy 161 = .ok (.bipush 10, 2) := by decide +kernel
theorem dX8_worksBy_163 : decode cX8_worksBy 163 = .ok (.iload 4, 2) := by decide +kernel
theorem dX8_worksBy_165 : decode cX8_worksBy 165 = .ok (.iadd, 1) := by decide +kernel
theorem dX8_worksBy_166 : decode cX8_worksBy 166 = .ok (.iaload, 1) := by decide +kernel
theorem dX8_worksBy_167 : decode cX8_worksBy 167 = .ok (.if_icmp .ne 7, 3) := by decide +kernel
theorem dX8_worksBy_170 : decode cX8_worksBy 170 = .ok (.iconst 1, 1) := by decide +kernel
theorem dX8_worksBy_171 : decode cX8_worksBy 171 = .ok (.goto 4, 3) := by decide +kernel
theorem dX8_worksBy_174 : decode cX8_worksBy 174 = .ok (.iconst 0, 1) := by decide +kernel
theorem dX8_worksBy_175 : decode cX8_worksBy 175 = .ok (.istore 8, 2) := by decide +kernel
theorem dX8_worksBy_177 : decode cX8_worksBy 177 = .ok (.iload 5, 2) := by decide +kernel
theorem dX8_worksBy_179 : decode cX8_worksBy 179 = .ok (.ifCond .ne 56, 3) := by decide +kernel
theorem dX8_worksBy_182 : decode cX8_worksBy 182 = .ok (.iload 8, 2) := by decide +kernel
theorem dX8_worksBy_184 : decode cX8_worksBy 184 = .ok (.ifCond .eq 55, 3) := by decide +kernel
theorem dX8_worksBy_187 : decode cX8_worksBy 187 = .ok (.aload_n 0, 1) := by decide +kernel
theorem dX8_worksBy_188 : decode cX8_worksBy 188 = .ok (.getfield 25, 3) := by decide +kernel
theorem dX8_worksBy_191 : decode cX8_worksBy 191 = .ok (.aload_n 0, 1) := by decide +kernel
theorem dX8_worksBy_192 : decode cX8_worksBy 192 = .ok (.getfield 25, 3) := by decide +kernel
theorem dX8_worksBy_195 : decode cX8_worksBy 195 = .ok (.bipush 16, 2) := by decide +kernel
theorem dX8_worksBy_197 : decode cX8_worksBy 197 = .ok (.iload 6, 2) := by decide +kernel
theorem dX8_worksBy_199 : decode cX8_worksBy 199 = .ok (.iadd, 1) := by decide +kernel
theorem dX8_worksBy_200 : decode cX8_worksBy 200 = .ok (.iaload, 1) := by decide +kernel
theorem dX8_worksBy_201 : decode cX8_worksBy 201 = .ok (.iload 7, 2) := by decide +kernel
theorem dX8_worksBy_203 : decode cX8_worksBy 203 = .ok (.aload_n 0, 1) := by decide +kernel
theorem dX8_worksBy_204 : decode cX8_worksBy 204 = .ok (.getfield 22, 3) := by decide +kernel
theorem dX8_worksBy_207 : decode cX8_worksBy 207 = .ok (.iconst 1, 1) := by decide +kernel
theorem dX8_worksBy_208 : decode cX8_worksBy 208 = .ok (.iaload, 1) := by decide +kernel
theorem dX8_worksBy_209 : decode cX8_worksBy 209 = .ok (.if_icmp .ne 8, 3) := by decide +kernel
theorem dX8_worksBy_212 : decode cX8_worksBy 212 = .ok (.bipush (-4), 2) := by decide +kernel
theorem dX8_worksBy_214 : decode cX8_worksBy 214 = .ok (.goto 5, 3) := by decide +kernel
theorem dX8_worksBy_217 : decode cX8_worksBy 217 = .ok (.iload 7, 2) := by decide +kernel
theorem dX8_worksBy_219 : decode cX8_worksBy 219 = .ok (.invokestatic 108, 3) := by decide +kernel
theorem dX8_worksBy_222 : decode cX8_worksBy 222 = .ok (.aload_n 0, 1) := by decide +kernel
theorem dX8_worksBy_223 : decode cX8_worksBy 223 = .ok (.getfield 22, 3) := by decide +kernel
theorem dX8_worksBy_226 : decode cX8_worksBy 226 = .ok (.bipush 16, 2) := by decide +kernel
theorem dX8_worksBy_228 : decode cX8_worksBy 228 = .ok (.iload 4, 2) := by decide +kernel
theorem dX8_worksBy_230 : decode cX8_worksBy 230 = .ok (.iadd, 1) := by decide +kernel
theorem dX8_worksBy_231 : decode cX8_worksBy 231 = .ok (.iaload, 1) := by decide +kernel
theorem dX8_worksBy_232 : decode cX8_worksBy 232 = .ok (.if_icmp .ne 7, 3) := by decide +kernel
theorem dX8_worksBy_235 : decode cX8_worksBy 235 = .ok (.iconst 1, 1) := by decide +kernel
theorem dX8_worksBy_236 : decode cX8_worksBy 236 = .ok (.goto 4, 3) := by decide +kernel
theorem dX8_worksBy_239 : decode cX8_worksBy 239 = .ok (.iconst 0, 1) := by decide +kernel
theorem dX8_worksBy_240 : decode cX8_worksBy 240 = .ok (.istore 5, 2) := by decide +kernel
theorem dX8_worksBy_242 : decode cX8_worksBy 242 = .ok (.iinc 6 1, 3) := by decide +kernel
theorem dX8_worksBy_245 : decode cX8_worksBy 245 = .ok (.goto (-132), 3) := by decide +kernel
theorem dX8_worksBy_248 : decode cX8_worksBy 248 = .ok (.iload_n 3, 1) := by decide +kernel
theorem dX8_worksBy_249 : decode cX8_worksBy 249 = .ok (.iload 5, 2) := by decide +kernel
theorem dX8_worksBy_251 : decode cX8_worksBy 251 = .ok (.ifCond .eq 21, 3) := by decide +kernel
theorem dX8_worksBy_254 : decode cX8_worksBy 254 = .ok (.aload_n 0, 1) := by decide +kernel
theorem dX8_worksBy_255 : decode cX8_worksBy 255 = .ok (.getfield 25, 3) := by decide +kernel
theorem dX8_worksBy_258 : decode cX8_worksBy 258 = .ok (.iconst 2, 1) := by decide +kernel
theorem dX8_worksBy_259 : decode cX8_worksBy 259 = .ok (.iaload, 1) := by decide +kernel
theorem dX8_worksBy_260 : decode cX8_worksBy 260 = .ok (.iload 4, 2) := by decide +kernel
theorem dX8_worksBy_262 : decode cX8_worksBy 262 = .ok (.invokestatic 135, 3) := by decide +kernel
theorem dX8_worksBy_265 : decode cX8_worksBy 265 = .ok (.ifCond .ne 7, 3) := by decide +kernel
theorem dX8_worksBy_268 : decode cX8_worksBy 268 = .ok (.iconst 1, 1) := by decide +kernel
theorem dX8_worksBy_269 : decode cX8_worksBy 269 = .ok (.goto 4, 3) := by decide +kernel
theorem dX8_worksBy_272 : decode cX8_worksBy 272 = .ok (.iconst 0, 1) := by decide +kernel
theorem dX8_worksBy_273 : decode cX8_worksBy 273 = .ok (.iadd, 1) := by decide +kernel
theorem dX8_worksBy_274 : decode cX8_worksBy 274 = .ok (.istore_n 3, 1) := by decide +kernel
theorem dX8_worksBy_275 : decode cX8_worksBy 275 = .ok (.iinc 4 1, 3) := by decide +kernel
theorem dX8_worksBy_278 : decode cX8_worksBy 278 = .ok (.goto (-182), 3) := by decide +kernel
theorem dX8_worksBy_281 : decode cX8_worksBy 281 = .ok (.iload_n 3, 1) := by decide +kernel
theorem dX8_worksBy_282 : decode cX8_worksBy 282 = .ok (.ireturn, 1) := by decide +kernel
set_option maxRecDepth 20000 in
theorem ggX8_deal_X8_in : GoodIn wsX8_deal wsX8_in := goodIn_r _ [5] (by decide +kernel) (by decide +kernel)
set_option maxRecDepth 20000 in
theorem gX8_deal_X8_in : GoodIn wsX8_deal (va_wsS RX8 57 yX8_in wsX8_in) := goodIn_app (goodIn_of _ (by decide +kernel)) ggX8_deal_X8_in
set_option maxRecDepth 20000 in
theorem ggX8_deal_X8_worksBy : GoodIn wsX8_deal wsX8_worksBy := goodIn_r _ [9, 1, 10, 11, 12, 13, 4, 14, 15, 16, 17, 18, 19, 20, 21, 22, 23, 24, 25, 26, 27, 28, 29, 30, 31, 32, 33, 34, 35, 36, 37, 38, 39] (by decide +kernel) (by decide +kernel)
set_option maxRecDepth 20000 in
theorem gX8_deal_X8_worksBy : GoodIn wsX8_deal (wsV RX8 202 RX8 yX8_worksBy wsX8_worksBy) := goodIn_app (goodIn_of _ (by decide +kernel)) ggX8_deal_X8_worksBy
set_option maxRecDepth 20000 in
theorem ggX8_deal_X8_dealt : GoodIn wsX8_deal wsX8_dealt := goodIn_r _ [14, 1, 21, 22, 23, 24, 25, 26, 27, 28, 29, 30, 31, 32, 33, 34, 35, 36, 37, 38, 39] (by decide +kernel) (by decide +kernel)
set_option maxRecDepth 20000 in
theorem gX8_deal_X8_dealt : GoodIn wsX8_deal (wsV RX8 199 RX8 yX8_dealt wsX8_dealt) := goodIn_app (goodIn_of _ (by decide +kernel)) ggX8_deal_X8_dealt
theorem dX8_deal_0 : decode cX8_deal 0 = .ok (.iload_n 1, 1) := by decide +kernel
theorem dX8_deal_1 : decode cX8_deal 1 = .ok (.iconst (-1), 1) := by decide +kernel
theorem dX8_deal_2 : decode cX8_deal 2 = .ok (.aload_n 0, 1) := by decide +kernel
theorem dX8_deal_3 : decode cX8_deal 3 = .ok (.getfield 22, 3) := by decide +kernel
theorem dX8_deal_6 : decode cX8_deal 6 = .ok (.iconst 2, 1) := by decide +kernel
theorem dX8_deal_7 : decode cX8_deal 7 = .ok (.iaload, 1) := by decide +kernel
theorem dX8_deal_8 : decode cX8_deal 8 = .ok (.iconst 1, 1) := by decide +kernel
theorem dX8_deal_9 : decode cX8_deal 9 = .ok (.isub, 1) := by decide +kernel
theorem dX8_deal_10 : decode cX8_deal 10 = .ok (.invokestatic 57, 3) := by decide +kernel
theorem dX8_deal_13 : decode cX8_deal 13 = .ok (.ifCond .ne 5, 3) := by decide +kernel
theorem dX8_deal_16 : decode cX8_deal 16 = .ok (.iconst (-1), 1) := by decide +kernel
theorem dX8_deal_17 : decode cX8_deal 17 = .ok (.ireturn, 1) := by decide +kernel
theorem dX8_deal_18 : decode cX8_deal 18 = .ok (.iconst 1, 1) := by decide +kernel
theorem dX8_deal_19 : decode cX8_deal 19 = .ok (.istore_n 2, 1) := by decide +kernel
theorem dX8_deal_20 : decode cX8_deal 20 = .ok (.iconst 0, 1) := by decide +kernel
theorem dX8_deal_21 : decode cX8_deal 21 = .ok (.istore_n 3, 1) := by decide +kernel
theorem dX8_deal_22 : decode cX8_deal 22 = .ok (.iload_n 3, 1) := by decide +kernel
theorem dX8_deal_23 : decode cX8_deal 23 = .ok (.aload_n 0, 1) := by decide +kernel
theorem dX8_deal_24 : decode cX8_deal 24 = .ok (.getfield 22, 3) := by decide +kernel
theorem dX8_deal_27 : decode cX8_deal 27 = .ok (.iconst 2, 1) := by decide +kernel
theorem dX8_deal_28 : decode cX8_deal 28 = .ok (.iaload, 1) := by decide +kernel
theorem dX8_deal_29 : decode cX8_deal 29 = .ok (.if_icmp .ge 20, 3) := by decide +kernel
theorem dX8_deal_32 : decode cX8_deal 32 = .ok (.iload_n 2, 1) := by decide +kernel
theorem dX8_deal_33 : decode cX8_deal 33 = .ok (.aload_n 0, 1) := by decide +kernel
theorem dX8_deal_34 : decode cX8_deal 34 = .ok (.getfield 22, 3) := by decide +kernel
theorem dX8_deal_37 : decode cX8_deal 37 = .ok (.iconst 1, 1) := by decide +kernel
theorem dX8_deal_38 : decode cX8_deal 38 = .ok (.iaload, 1) := by decide +kernel
theorem dX8_deal_39 : decode cX8_deal 39 = .ok (.iconst 1, 1) := by decide +kernel
theorem dX8_deal_40 : decode cX8_deal 40 = .ok (.iadd, 1) := by decide +kernel
theorem dX8_deal_41 : decode cX8_deal 41 = .ok (.imul, 1) := by decide +kernel
theorem dX8_deal_42 : decode cX8_deal 42 = .ok (.istore_n 2, 1) := by decide +kernel
theorem dX8_deal_43 : decode cX8_deal 43 = .ok (.iinc 3 1, 3) := by decide +kernel
theorem dX8_deal_46 : decode cX8_deal 46 = .ok (.goto (-24), 3) := by decide +kernel
theorem dX8_deal_49 : decode cX8_deal 49 = .ok (.bipush (-4), 2) := by decide +kernel
theorem dX8_deal_51 : decode cX8_deal 51 = .ok (.istore_n 3, 1) := by decide +kernel
theorem dX8_deal_52 : decode cX8_deal 52 = .ok (.iconst (-1), 1) := by decide +kernel
theorem dX8_deal_53 : decode cX8_deal 53 = .ok (.istore 4, 2) := by decide +kernel
theorem dX8_deal_55 : decode cX8_deal 55 = .ok (.iconst 0, 1) := by decide +kernel
theorem dX8_deal_56 : decode cX8_deal 56 = .ok (.istore 5, 2) := by decide +kernel
theorem dX8_deal_58 : decode cX8_deal 58 = .ok (.iload 5, 2) := by decide +kernel
theorem dX8_deal_60 : decode cX8_deal 60 = .ok (.iload_n 2, 1) := by decide +kernel
theorem dX8_deal_61 : decode cX8_deal 61 = .ok (.if_icmp .ge 47, 3) := by decide +kernel
theorem dX8_deal_64 : decode cX8_deal 64 = .ok (.aload_n 0, 1) := by decide +kernel
theorem dX8_deal_65 : decode cX8_deal 65 = .ok (.iload 5, 2) := by decide +kernel
theorem dX8_deal_67 : decode cX8_deal 67 = .ok (.invokevirtual 202, 3) := by decide +kernel
theorem dX8_deal_70 : decode cX8_deal 70 = .ok (.istore 6, 2) := by decide +kernel
theorem dX8_deal_72 : decode cX8_deal 72 = .ok (.iload 6, 2) := by decide +kernel
theorem dX8_deal_74 : decode cX8_deal 74 = .ok (.iload 4, 2) := by decide +kernel
theorem dX8_deal_76 : decode cX8_deal 76 = .ok (.if_icmp .le 8, 3) := by decide +kernel
theorem dX8_deal_79 : decode cX8_deal 79 = .ok (.iload 5, 2) := by decide +kernel
theorem dX8_deal_81 : decode cX8_deal 81 = .ok (.goto 4, 3) := by decide +kernel
theorem dX8_deal_84 : decode cX8_deal 84 = .ok (.iload_n 3, 1) := by decide +kernel
theorem dX8_deal_85 : decode cX8_deal 85 = .ok (.istore_n 3, 1) := by decide +kernel
theorem dX8_deal_86 : decode cX8_deal 86 = .ok (.iload 6, 2) := by decide +kernel
theorem dX8_deal_88 : decode cX8_deal 88 = .ok (.iload 4, 2) := by decide +kernel
theorem dX8_deal_90 : decode cX8_deal 90 = .ok (.if_icmp .le 8, 3) := by decide +kernel
theorem dX8_deal_93 : decode cX8_deal 93 = .ok (.iload 6, 2) := by decide +kernel
theorem dX8_deal_95 : decode cX8_deal 95 = .ok (.goto 5, 3) := by decide +kernel
theorem dX8_deal_98 : decode cX8_deal 98 = .ok (.iload 4, 2) := by decide +kernel
theorem dX8_deal_100 : decode cX8_deal 100 = .ok (.istore 4, 2) := by decide +kernel
theorem dX8_deal_102 : decode cX8_deal 102 = .ok (.iinc 5 1, 3) := by decide +kernel
theorem dX8_deal_105 : decode cX8_deal 105 = .ok (.goto (-47), 3) := by decide +kernel
theorem dX8_deal_108 : decode cX8_deal 108 = .ok (.iload_n 1, 1) := by decide +kernel
theorem dX8_deal_109 : decode cX8_deal 109 = .ok (.ifCond .ge 8, 3) := by decide +kernel
theorem dX8_deal_112 : decode cX8_deal 112 = .ok (.iload 4, 2) := by decide +kernel
theorem dX8_deal_114 : decode cX8_deal 114 = .ok (.goto 29, 3) := by decide +kernel
theorem dX8_deal_117 : decode cX8_deal 117 = .ok (.aload_n 0, 1) := by decide +kernel
theorem dX8_deal_118 : decode cX8_deal 118 = .ok (.iload_n 3, 1) := by decide +kernel
theorem dX8_deal_119 : decode cX8_deal 119 = .ok (.iload_n 1, 1) := by decide +kernel
theorem dX8_deal_120 : decode cX8_deal 120 = .ok (.invokevirtual 199, 3) := by decide +kernel
theorem dX8_deal_123 : decode cX8_deal 123 = .ok (.aload_n 0, 1) := by decide +kernel
theorem dX8_deal_124 : decode cX8_deal 124 = .ok (.getfield 22, 3) := by decide +kernel
theorem dX8_deal_127 : decode cX8_deal 127 = .ok (.iconst 1, 1) := by decide +kernel
theorem dX8_deal_128 : decode cX8_deal 128 = .ok (.iaload, 1) := by decide +kernel
theorem dX8_deal_129 : decode cX8_deal 129 = .ok (.if_icmp .ne 8, 3) := by decide +kernel
theorem dX8_deal_132 : decode cX8_deal 132 = .ok (.bipush (-4), 2) := by decide +kernel
theorem dX8_deal_134 : decode cX8_deal 134 = .ok (.goto 9, 3) := by decide +kernel
theorem dX8_deal_137 : decode cX8_deal 137 = .ok (.aload_n 0, 1) := by decide +kernel
theorem dX8_deal_138 : decode cX8_deal 138 = .ok (.iload_n 3, 1) := by decide +kernel
theorem dX8_deal_139 : decode cX8_deal 139 = .ok (.iload_n 1, 1) := by decide +kernel
theorem dX8_deal_140 : decode cX8_deal 140 = .ok (.invokevirtual 199, 3) := by decide +kernel
theorem dX8_deal_143 : decode cX8_deal 143 = .ok (.ireturn, 1) := by decide +kernel
set_option maxRecDepth 20000 in
theorem ggX8_make_X8_isHour : GoodIn wsX8_make wsX8_isHour := goodIn_r _ [6, 7, 8, 5, 9] (by decide +kernel) (by decide +kernel)
set_option maxRecDepth 20000 in
theorem gX8_make_X8_isHour : GoodIn wsX8_make (va_wsS RX8 193 yX8_isHour wsX8_isHour) := goodIn_app (goodIn_of _ (by decide +kernel)) ggX8_make_X8_isHour
set_option maxRecDepth 20000 in
theorem ggX8_make_X8_has : GoodIn wsX8_make wsX8_has := goodIn_r _ [12] (by decide +kernel) (by decide +kernel)
set_option maxRecDepth 20000 in
theorem gX8_make_X8_has : GoodIn wsX8_make (va_wsS RX8 135 yX8_has wsX8_has) := goodIn_app (goodIn_of _ (by decide +kernel)) ggX8_make_X8_has
set_option maxRecDepth 20000 in
theorem ggX8_make_X8_bits : GoodIn wsX8_make wsX8_bits := goodIn_r _ [15] (by decide +kernel) (by decide +kernel)
set_option maxRecDepth 20000 in
theorem gX8_make_X8_bits : GoodIn wsX8_make (va_wsS RX8 139 yX8_bits wsX8_bits) := goodIn_app (goodIn_of _ (by decide +kernel)) ggX8_make_X8_bits
theorem dX8_make_0 : decode cX8_make 0 = .ok (.iload_n 1, 1) := by decide +kernel
theorem dX8_make_1 : decode cX8_make 1 = .ok (.invokestatic 193, 3) := by decide +kernel
theorem dX8_make_4 : decode cX8_make 4 = .ok (.ifCond .ne 5, 3) := by decide +kernel
theorem dX8_make_7 : decode cX8_make 7 = .ok (.iconst (-1), 1) := by decide +kernel
theorem dX8_make_8 : decode cX8_make 8 = .ok (.ireturn, 1) := by decide +kernel
theorem dX8_make_9 : decode cX8_make 9 = .ok (.bipush (-4), 2) := by decide +kernel
theorem dX8_make_11 : decode cX8_make 11 = .ok (.istore_n 2, 1) := by decide +kernel
theorem dX8_make_12 : decode cX8_make 12 = .ok (.iconst 1, 1) := by decide +kernel
theorem dX8_make_13 : decode cX8_make 13 = .ok (.istore_n 3, 1) := by decide +kernel
theorem dX8_make_14 : decode cX8_make 14 = .ok (.iload_n 3, 1) := by decide +kernel
theorem dX8_make_15 : decode cX8_make 15 = .ok (.iconst 1, 1) := by decide +kernel
theorem dX8_make_16 : decode cX8_make 16 = .ok (.aload_n 0, 1) := by decide +kernel
theorem dX8_make_17 : decode cX8_make 17 = .ok (.getfield 22, 3) := by decide +kernel
theorem dX8_make_20 : decode cX8_make 20 = .ok (.iconst 1, 1) := by decide +kernel
theorem dX8_make_21 : decode cX8_make 21 = .ok (.iaload, 1) := by decide +kernel
theorem dX8_make_22 : decode cX8_make 22 = .ok (.ishl, 1) := by decide +kernel
theorem dX8_make_23 : decode cX8_make 23 = .ok (.if_icmp .ge 91, 3) := by decide +kernel
theorem dX8_make_26 : decode cX8_make 26 = .ok (.iconst 0, 1) := by decide +kernel
theorem dX8_make_27 : decode cX8_make 27 = .ok (.istore 4, 2) := by decide +kernel
theorem dX8_make_29 : decode cX8_make 29 = .ok (.iconst 0, 1) := by decide +kernel
theorem dX8_make_30 : decode cX8_make 30 = .ok (.istore 5, 2) := by decide +kernel
theorem dX8_make_32 : decode cX8_make 32 = .ok (.iload 5, 2) := by decide +kernel
theorem dX8_make_34 : decode cX8_make 34 = .ok (.aload_n 0, 1) := by decide +kernel
theorem dX8_make_35 : decode cX8_make 35 = .ok (.getfield 22, 3) := by decide +kernel
theorem dX8_make_38 : decode cX8_make 38 = .ok (.iconst 1, 1) := by decide +kernel
theorem dX8_make_39 : decode cX8_make 39 = .ok (.iaload, 1) := by decide +kernel
theorem dX8_make_40 : decode cX8_make 40 = .ok (.if_icmp .ge 36, 3) := by decide +kernel
theorem dX8_make_43 : decode cX8_make 43 = .ok (.iload 4, 2) := by decide +kernel
theorem dX8_make_45 : decode cX8_make 45 = .ok (.iload_n 3, 1) := by decide +kernel
theorem dX8_make_46 : decode cX8_make 46 = .ok (.iload 5, 2) := by decide +kernel
theorem dX8_make_48 : decode cX8_make 48 = .ok (.invokestatic 135, 3) := by decide +kernel
theorem dX8_make_51 : decode cX8_make 51 = .ok (.ifCond .eq 15, 3) := by decide +kernel
theorem dX8_make_54 : decode cX8_make 54 = .ok (.aload_n 0, 1) := by decide +kernel
theorem dX8_make_55 : decode cX8_make 55 = .ok (.getfield 25, 3) := by decide +kernel
theorem dX8_make_58 : decode cX8_make 58 = .ok (.iconst 4, 1) := by decide +kernel
theorem dX8_make_59 : decode cX8_make 59 = .ok (.iload 5, 2) := by decide +kernel
theorem dX8_make_61 : decode cX8_make 61 = .ok (.iadd, 1) := by decide +kernel
theorem dX8_make_62 : decode cX8_make 62 = .ok (.iaload, 1) := by decide +kernel
theorem dX8_make_63 : decode cX8_make 63 = .ok (.goto 4, 3) := by decide +kernel
theorem dX8_make_66 : decode cX8_make 66 = .ok (.iconst 0, 1) := by decide +kernel
theorem dX8_make_67 : decode cX8_make 67 = .ok (.iadd, 1) := by decide +kernel
theorem dX8_make_68 : decode cX8_make 68 = .ok (.istore 4, 2) := by decide +kernel
theorem dX8_make_70 : decode cX8_make 70 = .ok (.iinc 5 1, 3) := by decide +kernel
theorem dX8_make_73 : decode cX8_make 73 = .ok (.goto (-41), 3) := by decide +kernel
theorem dX8_make_76 : decode cX8_make 76 = .ok (.iload 4, 2) := by decide +kernel
theorem dX8_make_78 : decode cX8_make 78 = .ok (.bipush 24, 2) := by decide +kernel
theorem dX8_make_80 : decode cX8_make 80 = .ok (.irem, 1) := by decide +kernel
theorem dX8_make_81 : decode cX8_make 81 = .ok (.iload_n 1, 1) := by decide +kernel
theorem dX8_make_82 : decode cX8_make 82 = .ok (.if_icmp .ne 24, 3) := by decide +kernel
theorem dX8_make_85 : decode cX8_make 85 = .ok (.iload_n 2, 1) := by decide +kernel
theorem dX8_make_86 : decode cX8_make 86 = .ok (.bipush (-4), 2) := by decide +kernel
theorem dX8_make_88 : decode cX8_make 88 = .ok (.if_icmp .eq 14, 3) := by decide +kernel
theorem dX8_make_91 : decode cX8_make 91 = .ok (.iload_n 3, 1) := by decide +kernel
theorem dX8_make_92 : decode cX8_make 92 = .ok (.invokestatic 139, 3) := by decide +kernel
theorem dX8_make_95 : decode cX8_make 95 = .ok (.iload_n 2, 1) := by decide +kernel
theorem dX8_make_96 : decode cX8_make 96 = .ok (.invokestatic 139, 3) := by decide +kernel
theorem dX8_make_99 : decode cX8_make 99 = .ok (.if_icmp .ge 7, 3) := by decide +kernel
theorem dX8_make_102 : decode cX8_make 102 = .ok (.iload_n 3, 1) := by decide +kernel
theorem dX8_make_103 : decode cX8_make 103 = .ok (.goto 4, 3) := by decide +kernel
theorem dX8_make_106 : decode cX8_make 106 = .ok (.iload_n 2, 1) := by decide +kernel
theorem dX8_make_107 : decode cX8_make 107 = .ok (.istore_n 2, 1) := by decide +kernel
theorem dX8_make_108 : decode cX8_make 108 = .ok (.iinc 3 1, 3) := by decide +kernel
theorem dX8_make_111 : decode cX8_make 111 = .ok (.goto (-97), 3) := by decide +kernel
theorem dX8_make_114 : decode cX8_make 114 = .ok (.iload_n 2, 1) := by decide +kernel
theorem dX8_make_115 : decode cX8_make 115 = .ok (.ireturn, 1) := by decide +kernel
set_option maxRecDepth 20000 in
theorem ggX8_still_X8_in : GoodIn wsX8_still wsX8_in := goodIn_r _ [5] (by decide +kernel) (by decide +kernel)
set_option maxRecDepth 20000 in
theorem gX8_still_X8_in : GoodIn wsX8_still (va_wsS RX8 57 yX8_in wsX8_in) := goodIn_app (goodIn_of _ (by decide +kernel)) ggX8_still_X8_in
set_option maxRecDepth 20000 in
theorem ggX8_still_X8_copyNow : GoodIn wsX8_still wsX8_copyNow := goodIn_r _ [9, 1, 10, 52, 53, 54, 55, 56, 57, 58, 59, 60, 61, 62, 63, 64, 65, 66, 67, 68, 69, 70] (by decide +kernel) (by decide +kernel)
set_option maxRecDepth 20000 in
theorem gX8_still_X8_copyNow : GoodIn wsX8_still (wsV RX8 162 RX8 yX8_copyNow wsX8_copyNow) := goodIn_app (goodIn_of _ (by decide +kernel)) ggX8_still_X8_copyNow
set_option maxRecDepth 20000 in
theorem ggX8_still_X8_goes : GoodIn wsX8_still wsX8_goes := goodIn_r _ [14, 15, 16, 17, 18, 4, 19, 20, 21, 22, 23, 24, 25, 26, 27, 28, 29, 30, 31, 32, 33, 34, 35, 36, 37, 38, 39, 40, 41, 42, 43, 44, 45, 46, 47, 48, 49, 50, 51, 52, 53, 54, 55, 56, 57, 58, 59, 60, 61, 62, 63, 64, 65, 66, 67, 68, 69, 70] (by decide +kernel) (by decide +kernel)
set_option maxRecDepth 20000 in
theorem gX8_still_X8_goes : GoodIn wsX8_still (wsV RX8 185 RX8 yX8_goes wsX8_goes) := goodIn_app (goodIn_of _ (by decide +kernel)) ggX8_still_X8_goes
theorem dX8_still_0 : decode cX8_still 0 = .ok (.iload_n 1, 1) := by decide +kernel
theorem dX8_still_1 : decode cX8_still 1 = .ok (.iconst 0, 1) := by decide +kernel
theorem dX8_still_2 : decode cX8_still 2 = .ok (.bipush 48, 2) := by decide +kernel
theorem dX8_still_4 : decode cX8_still 4 = .ok (.invokestatic 57, 3) := by decide +kernel
theorem dX8_still_7 : decode cX8_still 7 = .ok (.ifCond .ne 5, 3) := by decide +kernel
theorem dX8_still_10 : decode cX8_still 10 = .ok (.iconst (-1), 1) := by decide +kernel
theorem dX8_still_11 : decode cX8_still 11 = .ok (.ireturn, 1) := by decide +kernel
theorem dX8_still_12 : decode cX8_still 12 = .ok (.aload_n 0, 1) := by decide +kernel
theorem dX8_still_13 : decode cX8_still 13 = .ok (.invokevirtual 162, 3) := by decide +kernel
theorem dX8_still_16 : decode cX8_still 16 = .ok (.iconst 0, 1) := by decide +kernel
theorem dX8_still_17 : decode cX8_still 17 = .ok (.istore_n 2, 1) := by decide +kernel
theorem dX8_still_18 : decode cX8_still 18 = .ok (.iload_n 2, 1) := by decide +kernel
theorem dX8_still_19 : decode cX8_still 19 = .ok (.iload_n 1, 1) := by decide +kernel
theorem dX8_still_20 : decode cX8_still 20 = .ok (.if_icmp .ge 17, 3) := by decide +kernel
theorem dX8_still_23 : decode cX8_still 23 = .ok (.aload_n 0, 1) := by decide +kernel
theorem dX8_still_24 : decode cX8_still 24 = .ok (.aload_n 0, 1) := by decide +kernel
theorem dX8_still_25 : decode cX8_still 25 = .ok (.getfield 28, 3) := by decide +kernel
theorem dX8_still_28 : decode cX8_still 28 = .ok (.invokevirtual 185, 3) := by decide +kernel
theorem dX8_still_31 : decode cX8_still 31 = .ok (.iinc 2 1, 3) := by decide +kernel
theorem dX8_still_34 : decode cX8_still 34 = .ok (.goto (-16), 3) := by decide +kernel
theorem dX8_still_37 : decode cX8_still 37 = .ok (.aload_n 0, 1) := by decide +kernel
theorem dX8_still_38 : decode cX8_still 38 = .ok (.getfield 28, 3) := by decide +kernel
theorem dX8_still_41 : decode cX8_still 41 = .ok (.iconst 3, 1) := by decide +kernel
theorem dX8_still_42 : decode cX8_still 42 = .ok (.iaload, 1) := by decide +kernel
theorem dX8_still_43 : decode cX8_still 43 = .ok (.ireturn, 1) := by decide +kernel
set_option maxRecDepth 20000 in
theorem ggX8_wornBy_X8_wears : GoodIn wsX8_wornBy wsX8_wears := goodIn_r _ [6, 7, 8, 9, 10, 11, 12, 13, 14, 15, 16, 17, 18, 19, 20, 21, 22, 23, 24, 25, 26] (by decide +kernel) (by decide +kernel)
set_option maxRecDepth 20000 in
theorem gX8_wornBy_X8_wears : GoodIn wsX8_wornBy (wsV RX8 153 RX8 yX8_wears wsX8_wears) := goodIn_app (goodIn_of _ (by decide +kernel)) ggX8_wornBy_X8_wears
theorem dX8_wornBy_0 : decode cX8_wornBy 0 = .ok (.aload_n 0, 1) := by decide +kernel
theorem dX8_wornBy_1 : decode cX8_wornBy 1 = .ok (.getfield 25, 3) := by decide +kernel
theorem dX8_wornBy_4 : decode cX8_wornBy 4 = .ok (.bipush 10, 2) := by decide +kernel
theorem dX8_wornBy_6 : decode cX8_wornBy 6 = .ok (.iload_n 1, 1) := by decide +kernel
theorem dX8_wornBy_7 : decode cX8_wornBy 7 = .ok (.iadd, 1) := by decide +kernel
theorem dX8_wornBy_8 : decode cX8_wornBy 8 = .ok (.iaload, 1) := by decide +kernel
theorem dX8_wornBy_9 : decode cX8_wornBy 9 = .ok (.istore_n 3, 1) := by decide +kernel
theorem dX8_wornBy_10 : decode cX8_wornBy 10 = .ok (.iconst 0, 1) := by decide +kernel
theorem dX8_wornBy_11 : decode cX8_wornBy 11 = .ok (.istore 4, 2) := by decide +kernel
theorem dX8_wornBy_13 : decode cX8_wornBy 13 = .ok (.iload 4, 2) := by decide +kernel
theorem dX8_wornBy_15 : decode cX8_wornBy 15 = .ok (.iload_n 2, 1) := by decide +kernel
theorem dX8_wornBy_16 : decode cX8_wornBy 16 = .ok (.if_icmp .ge 26, 3) := by decide +kernel
theorem dX8_wornBy_19 : decode cX8_wornBy 19 = .ok (.iload_n 3, 1) := by decide +kernel
theorem dX8_wornBy_20 : decode cX8_wornBy 20 = .ok (.aload_n 0, 1) := by decide +kernel
theorem dX8_wornBy_21 : decode cX8_wornBy 21 = .ok (.iload_n 1, 1) := by decide +kernel
theorem dX8_wornBy_22 : decode cX8_wornBy 22 = .ok (.aload_n 0, 1) := by decide +kernel
theorem dX8_wornBy_23 : decode cX8_wornBy 23 = .ok (.getfield 25, 3) := by decide +kernel
theorem dX8_wornBy_26 : decode cX8_wornBy 26 = .ok (.iconst 0, 1) := by decide +kernel
theorem dX8_wornBy_27 : decode cX8_wornBy 27 = .ok (.iaload, 1) := by decide +kernel
theorem dX8_wornBy_28 : decode cX8_wornBy 28 = .ok (.iload 4, 2) := by decide +kernel
theorem dX8_wornBy_30 : decode cX8_wornBy 30 = .ok (.iadd, 1) := by decide +kernel
theorem dX8_wornBy_31 : decode cX8_wornBy 31 = .ok (.invokevirtual 153, 3) := by decide +kernel
theorem dX8_wornBy_34 : decode cX8_wornBy 34 = .ok (.iadd, 1) := by decide +kernel
theorem dX8_wornBy_35 : decode cX8_wornBy 35 = .ok (.istore_n 3, 1) := by decide +kernel
theorem dX8_wornBy_36 : decode cX8_wornBy 36 = .ok (.iinc 4 1, 3) := by decide +kernel
theorem dX8_wornBy_39 : decode cX8_wornBy 39 = .ok (.goto (-26), 3) := by decide +kernel
theorem dX8_wornBy_42 : decode cX8_wornBy 42 = .ok (.iload_n 3, 1) := by decide +kernel
theorem dX8_wornBy_43 : decode cX8_wornBy 43 = .ok (.ireturn, 1) := by decide +kernel
set_option maxRecDepth 20000 in
theorem ggX8_soonest_X8_isWork : GoodIn wsX8_soonest wsX8_isWork := goodIn_r _ [7, 2, 8, 9, 6, 10, 34, 35, 36, 37, 38, 39, 40, 41, 42, 43, 44, 45, 46, 47, 48, 49, 50, 51, 52] (by decide +kernel) (by decide +kernel)
set_option maxRecDepth 20000 in
theorem gX8_soonest_X8_isWork : GoodIn wsX8_soonest (wsV RX8 132 RX8 yX8_isWork wsX8_isWork) := goodIn_app (goodIn_of _ (by decide +kernel)) ggX8_soonest_X8_isWork
set_option maxRecDepth 20000 in
theorem ggX8_soonest_X8_in : GoodIn wsX8_soonest wsX8_in := goodIn_r _ [10] (by decide +kernel) (by decide +kernel)
set_option maxRecDepth 20000 in
theorem gX8_soonest_X8_in : GoodIn wsX8_soonest (va_wsS RX8 57 yX8_in wsX8_in) := goodIn_app (goodIn_of _ (by decide +kernel)) ggX8_soonest_X8_in
set_option maxRecDepth 20000 in
theorem ggX8_soonest_X8_has : GoodIn wsX8_soonest wsX8_has := goodIn_r _ [13] (by decide +kernel) (by decide +kernel)
set_option maxRecDepth 20000 in
theorem gX8_soonest_X8_has : GoodIn wsX8_soonest (va_wsS RX8 135 yX8_has wsX8_has) := goodIn_app (goodIn_of _ (by decide +kernel)) ggX8_soonest_X8_has
set_option maxRecDepth 20000 in
theorem ggX8_soonest_X8_untilHour : GoodIn wsX8_soonest wsX8_untilHour := goodIn_r _ [17, 1, 18, 19, 20, 6, 21, 22, 23, 24, 25, 2, 34, 35, 36, 37, 38, 39, 40, 41, 42, 43, 44, 45, 46, 47, 48, 49, 50, 51, 52] (by decide +kernel) (by decide +kernel)
set_option maxRecDepth 20000 in
theorem gX8_soonest_X8_untilHour : GoodIn wsX8_soonest (wsV RX8 196 RX8 yX8_untilHour wsX8_untilHour) := goodIn_app (goodIn_of _ (by decide +kernel)) ggX8_soonest_X8_untilHour
set_option maxRecDepth 20000 in
theorem ggX8_soonest_X8_wornBy : GoodIn wsX8_soonest wsX8_wornBy := goodIn_r _ [29, 1, 30, 31, 32, 6, 33, 2, 34, 35, 36, 37, 38, 39, 40, 41, 42, 43, 44, 45, 46, 47, 48, 49, 50, 51, 52] (by decide +kernel) (by decide +kernel)
set_option maxRecDepth 20000 in
theorem gX8_soonest_X8_wornBy : GoodIn wsX8_soonest (wsV RX8 205 RX8 yX8_wornBy wsX8_wornBy) := goodIn_app (goodIn_of _ (by decide +kernel)) ggX8_soonest_X8_wornBy
theorem dX8_soonest_0 : decode cX8_soonest 0 = .ok (.aload_n 0, 1) := by decide +kernel
theorem dX8_soonest_1 : decode cX8_soonest 1 = .ok (.iload_n 1, 1) := by decide +kernel
theorem dX8_soonest_2 : decode cX8_soonest 2 = .ok (.invokevirtual 132, 3) := by decide +kernel
theorem dX8_soonest_5 : decode cX8_soonest 5 = .ok (.ifCond .eq 12, 3) := by decide +kernel
theorem dX8_soonest_8 : decode cX8_soonest 8 = .ok (.iload_n 2, 1) := by decide +kernel
theorem dX8_soonest_9 : decode cX8_soonest 9 = .ok (.iconst 0, 1) := by decide +kernel
theorem dX8_soonest_10 : decode cX8_soonest 10 = .ok (.iconst 1, 1) := by decide +kernel
theorem dX8_soonest_11 : decode cX8_soonest 11 = .ok (.invokestatic 57, 3) := by decide +kernel
theorem dX8_soonest_14 : decode cX8_soonest 14 = .ok (.ifCond .ne 5, 3) := by decide +kernel
theorem dX8_soonest_17 : decode cX8_soonest 17 = .ok (.iconst (-1), 1) := by decide +kernel
theorem dX8_soonest_18 : decode cX8_soonest 18 = .ok (.ireturn, 1) := by decide +kernel
theorem dX8_soonest_19 : decode cX8_soonest 19 = .ok (.aload_n 0, 1) := by decide +kernel
theorem dX8_soonest_20 : decode cX8_soonest 20 = .ok (.getfield 25, 3) := by decide +kernel
theorem dX8_soonest_23 : decode cX8_soonest 23 = .ok (.iconst 2, 1) := by decide +kernel
theorem dX8_soonest_24 : decode cX8_soonest 24 = .ok (.iaload, 1) := by decide +kernel
theorem dX8_soonest_25 : decode cX8_soonest 25 = .ok (.iload_n 1, 1) := by decide +kernel
theorem dX8_soonest_26 : decode cX8_soonest 26 = .ok (.invokestatic 135, 3) := by decide +kernel
theorem dX8_soonest_29 : decode cX8_soonest 29 = .ok (.ifCond .eq 6, 3) := by decide +kernel
theorem dX8_soonest_32 : decode cX8_soonest 32 = .ok (.bipush (-2), 2) := by decide +kernel
theorem dX8_soonest_34 : decode cX8_soonest 34 = .ok (.ireturn, 1) := by decide +kernel
theorem dX8_soonest_35 : decode cX8_soonest 35 = .ok (.bipush (-4), 2) := by decide +kernel
theorem dX8_soonest_37 : decode cX8_soonest 37 = .ok (.istore_n 3, 1) := by decide +kernel
theorem dX8_soonest_38 : decode cX8_soonest 38 = .ok (.bipush (-4), 2) := by decide +kernel
theorem dX8_soonest_40 : decode cX8_soonest 40 = .ok (.istore 4, 2) := by decide +kernel
theorem dX8_soonest_42 : decode cX8_soonest 42 = .ok (.iconst 0, 1) := by decide +kernel
theorem dX8_soonest_43 : decode cX8_soonest 43 = .ok (.istore 5, 2) := by decide +kernel
theorem dX8_soonest_45 : decode cX8_soonest 45 = .ok (.iload 5, 2) := by decide +kernel
theorem dX8_soonest_47 : decode cX8_soonest 47 = .ok (.aload_n 0, 1) := by decide +kernel
theorem dX8_soonest_48 : decode cX8_soonest 48 = .ok (.getfield 22, 3) := by decide +kernel
theorem dX8_soonest_51 : decode cX8_soonest 51 = .ok (.iconst 2, 1) := by decide +kernel
theorem dX8_soonest_52 : decode cX8_soonest 52 = .ok (.iaload, 1) := by decide +kernel
theorem dX8_soonest_53 : decode cX8_soonest 53 = .ok (.if_icmp .ge 130, 3) := by decide +kernel
theorem dX8_soonest_56 : decode cX8_soonest 56 = .ok (.aload_n 0, 1) := by decide +kernel
theorem dX8_soonest_57 : decode cX8_soonest 57 = .ok (.getfield 25, 3) := by decide +kernel
theorem dX8_soonest_60 : decode cX8_soonest 60 = .ok (.bipush 21, 2) := by decide +kernel
theorem dX8_soonest_62 : decode cX8_soonest 62 = .ok (.iload 5, 2) := by decide +kernel
theorem dX8_soonest_64 : decode cX8_soonest 64 = .ok (.iadd, 1) := by decide +kernel
theorem dX8_soonest_65 : decode cX8_soonest 65 = .ok (.iaload, 1) := by decide +kernel
theorem dX8_soonest_66 : decode cX8_soonest 66 = .ok (.istore 6, 2) := by decide +kernel
theorem dX8_soonest_68 : decode cX8_soonest 68 = .ok (.aload_n 0, 1) := by decide +kernel
theorem dX8_soonest_69 : decode cX8_soonest 69 = .ok (.getfield 25, 3) := by decide +kernel
theorem dX8_soonest_72 : decode cX8_soonest 72 = .ok (.iconst 3, 1) := by decide +kernel
theorem dX8_soonest_73 : decode cX8_soonest 73 = .ok (.iaload, 1) := by decide +kernel
theorem dX8_soonest_74 : decode cX8_soonest 74 = .ok (.iload 5, 2) := by decide +kernel
theorem dX8_soonest_76 : decode cX8_soonest 76 = .ok (.invokestatic 135, 3) := by decide +kernel
theorem dX8_soonest_79 : decode cX8_soonest 79 = .ok (.ifCond .ne 10, 3) := by decide +kernel
theorem dX8_soonest_82 : decode cX8_soonest 82 = .ok (.iload 6, 2) := by decide +kernel
theorem dX8_soonest_84 : decode cX8_soonest 84 = .ok (.bipush (-4), 2) := by decide +kernel
theorem dX8_soonest_86 : decode cX8_soonest 86 = .ok (.if_icmp .ne 8, 3) := by decide +kernel
theorem dX8_soonest_89 : decode cX8_soonest 89 = .ok (.bipush (-4), 2) := by decide +kernel
theorem dX8_soonest_91 : decode cX8_soonest 91 = .ok (.goto 18, 3) := by decide +kernel
theorem dX8_soonest_94 : decode cX8_soonest 94 = .ok (.aload_n 0, 1) := by decide +kernel
theorem dX8_soonest_95 : decode cX8_soonest 95 = .ok (.iload 6, 2) := by decide +kernel
theorem dX8_soonest_97 : decode cX8_soonest 97 = .ok (.aload_n 0, 1) := by decide +kernel
theorem dX8_soonest_98 : decode cX8_soonest 98 = .ok (.getfield 22, 3) := by decide +kernel
theorem dX8_soonest_101 : decode cX8_soonest 101 = .ok (.bipush 16, 2) := by decide +kernel
theorem dX8_soonest_103 : decode cX8_soonest 103 = .ok (.iload_n 1, 1) := by decide +kernel
theorem dX8_soonest_104 : decode cX8_soonest 104 = .ok (.iadd, 1) := by decide +kernel
theorem dX8_soonest_105 : decode cX8_soonest 105 = .ok (.iaload, 1) := by decide +kernel
theorem dX8_soonest_106 : decode cX8_soonest 106 = .ok (.invokevirtual 196, 3) := by decide +kernel
theorem dX8_soonest_109 : decode cX8_soonest 109 = .ok (.istore 7, 2) := by decide +kernel
theorem dX8_soonest_111 : decode cX8_soonest 111 = .ok (.iload 7, 2) := by decide +kernel
theorem dX8_soonest_113 : decode cX8_soonest 113 = .ok (.bipush (-4), 2) := by decide +kernel
theorem dX8_soonest_115 : decode cX8_soonest 115 = .ok (.if_icmp .eq 33, 3) := by decide +kernel
theorem dX8_soonest_118 : decode cX8_soonest 118 = .ok (.aload_n 0, 1) := by decide +kernel
theorem dX8_soonest_119 : decode cX8_soonest 119 = .ok (.iload 6, 2) := by decide +kernel
theorem dX8_soonest_121 : decode cX8_soonest 121 = .ok (.iload 7, 2) := by decide +kernel
theorem dX8_soonest_123 : decode cX8_soonest 123 = .ok (.invokevirtual 205, 3) := by decide +kernel
theorem dX8_soonest_126 : decode cX8_soonest 126 = .ok (.bipush 12, 2) := by decide +kernel
theorem dX8_soonest_128 : decode cX8_soonest 128 = .ok (.if_icmp .gt 20, 3) := by decide +kernel
theorem dX8_soonest_131 : decode cX8_soonest 131 = .ok (.iload_n 3, 1) := by decide +kernel
theorem dX8_soonest_132 : decode cX8_soonest 132 = .ok (.bipush (-4), 2) := by decide +kernel
theorem dX8_soonest_134 : decode cX8_soonest 134 = .ok (.if_icmp .eq 10, 3) := by decide +kernel
theorem dX8_soonest_137 : decode cX8_soonest 137 = .ok (.iload 7, 2) := by decide +kernel
theorem dX8_soonest_139 : decode cX8_soonest 139 = .ok (.iload 4, 2) := by decide +kernel
theorem dX8_soonest_141 : decode cX8_soonest 141 = .ok (.if_icmp .ge 7, 3) := by decide +kernel
theorem dX8_soonest_144 : decode cX8_soonest 144 = .ok (.iconst 1, 1) := by decide +kernel
theorem dX8_soonest_145 : decode cX8_soonest 145 = .ok (.goto 4, 3) := by decide +kernel
theorem dX8_soonest_148 : decode cX8_soonest 148 = .ok (.iconst 0, 1) := by decide +kernel
theorem dX8_soonest_149 : decode cX8_soonest 149 = .ok (.istore 8, 2) := by decide +kernel
theorem dX8_soonest_151 : decode cX8_soonest 151 = .ok (.iload 8, 2) := by decide +kernel
theorem dX8_soonest_153 : decode cX8_soonest 153 = .ok (.ifCond .eq 8, 3) := by decide +kernel
theorem dX8_soonest_156 : decode cX8_soonest 156 = .ok (.iload 5, 2) := by decide +kernel
theorem dX8_soonest_158 : decode cX8_soonest 158 = .ok (.goto 4, 3) := by decide +kernel
theorem dX8_soonest_161 : decode cX8_soonest 161 = .ok (.iload_n 3, 1) := by decide +kernel
theorem dX8_soonest_162 : decode cX8_soonest 162 = .ok (.istore_n 3, 1) := by decide +kernel
theorem dX8_soonest_163 : decode cX8_soonest 163 = .ok (.iload 8, 2) := by decide +kernel
theorem dX8_soonest_165 : decode cX8_soonest 165 = .ok (.ifCond .eq 8, 3) := by decide +kernel
theorem dX8_soonest_168 : decode cX8_soonest 168 = .ok (.iload 7, 2) := by decide +kernel
theorem dX8_soonest_170 : decode cX8_soonest 170 = .ok (.goto 5, 3) := by decide +kernel
theorem dX8_soonest_173 : decode cX8_soonest 173 = .ok (.iload 4, 2) := by decide +kernel
theorem dX8_soonest_175 : decode cX8_soonest 175 = .ok (.istore 4, 2) := by decide +kernel
theorem dX8_soonest_177 : decode cX8_soonest 177 = .ok (.iinc 5 1, 3) := by decide +kernel
theorem dX8_soonest_180 : decode cX8_soonest 180 = .ok (.goto (-135), 3) := by decide +kernel
theorem dX8_soonest_183 : decode cX8_soonest 183 = .ok (.iload_n 2, 1) := by decide +kernel
theorem dX8_soonest_184 : decode cX8_soonest 184 = .ok (.ifCond .ne 7, 3) := by decide +kernel
theorem dX8_soonest_187 : decode cX8_soonest 187 = .ok (.iload_n 3, 1) := by decide +kernel
theorem dX8_soonest_188 : decode cX8_soonest 188 = .ok (.goto 5, 3) := by decide +kernel
theorem dX8_soonest_191 : decode cX8_soonest 191 = .ok (.iload 4, 2) := by decide +kernel
theorem dX8_soonest_193 : decode cX8_soonest 193 = .ok (.ireturn, 1) := by decide +kernel
set_option maxRecDepth 20000 in
theorem ggX8_see_X8_isHour : GoodIn wsX8_see wsX8_isHour := goodIn_r _ [7, 8, 9, 6, 10] (by decide +kernel) (by decide +kernel)
set_option maxRecDepth 20000 in
theorem gX8_see_X8_isHour : GoodIn wsX8_see (va_wsS RX8 193 yX8_isHour wsX8_isHour) := goodIn_app (goodIn_of _ (by decide +kernel)) ggX8_see_X8_isHour
set_option maxRecDepth 20000 in
theorem ggX8_see_X8_in : GoodIn wsX8_see wsX8_in := goodIn_r _ [10] (by decide +kernel) (by decide +kernel)
set_option maxRecDepth 20000 in
theorem gX8_see_X8_in : GoodIn wsX8_see (va_wsS RX8 57 yX8_in wsX8_in) := goodIn_app (goodIn_of _ (by decide +kernel)) ggX8_see_X8_in
theorem dX8_see_0 : decode cX8_see 0 = .ok (.iload_n 1, 1) := by decide +kernel
theorem dX8_see_1 : decode cX8_see 1 = .ok (.invokestatic 193, 3) := by decide +kernel
theorem dX8_see_4 : decode cX8_see 4 = .ok (.ifCond .eq 13, 3) := by decide +kernel
theorem dX8_see_7 : decode cX8_see 7 = .ok (.iload_n 2, 1) := by decide +kernel
theorem dX8_see_8 : decode cX8_see 8 = .ok (.iconst 0, 1) := by decide +kernel
theorem dX8_see_9 : decode cX8_see 9 = .ok (.bipush 30, 2) := by decide +kernel
theorem dX8_see_11 : decode cX8_see 11 = .ok (.invokestatic 57, 3) := by decide +kernel
theorem dX8_see_14 : decode cX8_see 14 = .ok (.ifCond .ne 5, 3) := by decide +kernel
theorem dX8_see_17 : decode cX8_see 17 = .ok (.iconst (-1), 1) := by decide +kernel
theorem dX8_see_18 : decode cX8_see 18 = .ok (.ireturn, 1) := by decide +kernel
theorem dX8_see_19 : decode cX8_see 19 = .ok (.aload_n 0, 1) := by decide +kernel
theorem dX8_see_20 : decode cX8_see 20 = .ok (.getfield 105, 3) := by decide +kernel
theorem dX8_see_23 : decode cX8_see 23 = .ok (.bipush 6, 2) := by decide +kernel
theorem dX8_see_25 : decode cX8_see 25 = .ok (.if_icmp .ne 6, 3) := by decide +kernel
theorem dX8_see_28 : decode cX8_see 28 = .ok (.bipush (-3), 2) := by decide +kernel
theorem dX8_see_30 : decode cX8_see 30 = .ok (.ireturn, 1) := by decide +kernel
theorem dX8_see_31 : decode cX8_see 31 = .ok (.aload_n 0, 1) := by decide +kernel
theorem dX8_see_32 : decode cX8_see 32 = .ok (.getfield 34, 3) := by decide +kernel
theorem dX8_see_35 : decode cX8_see 35 = .ok (.aload_n 0, 1) := by decide +kernel
theorem dX8_see_36 : decode cX8_see 36 = .ok (.getfield 105, 3) := by decide +kernel
theorem dX8_see_39 : decode cX8_see 39 = .ok (.iload_n 1, 1) := by decide +kernel
theorem dX8_see_40 : decode cX8_see 40 = .ok (.iastore, 1) := by decide +kernel
theorem dX8_see_41 : decode cX8_see 41 = .ok (.aload_n 0, 1) := by decide +kernel
theorem dX8_see_42 : decode cX8_see 42 = .ok (.getfield 37, 3) := by decide +kernel
theorem dX8_see_45 : decode cX8_see 45 = .ok (.aload_n 0, 1) := by decide +kernel
theorem dX8_see_46 : decode cX8_see 46 = .ok (.getfield 105, 3) := by decide +kernel
theorem dX8_see_49 : decode cX8_see 49 = .ok (.iload_n 2, 1) := by decide +kernel
theorem dX8_see_50 : decode cX8_see 50 = .ok (.iastore, 1) := by decide +kernel
theorem dX8_see_51 : decode cX8_see 51 = .ok (.aload_n 0, 1) := by decide +kernel
theorem dX8_see_52 : decode cX8_see 52 = .ok (.dup, 1) := by decide +kernel
theorem dX8_see_53 : decode cX8_see 53 = .ok (.getfield 105, 3) := by decide +kernel
theorem dX8_see_56 : decode cX8_see 56 = .ok (.iconst 1, 1) := by decide +kernel
theorem dX8_see_57 : decode cX8_see 57 = .ok (.iadd, 1) := by decide +kernel
theorem dX8_see_58 : decode cX8_see 58 = .ok (.putfield 105, 3) := by decide +kernel
theorem dX8_see_61 : decode cX8_see 61 = .ok (.aload_n 0, 1) := by decide +kernel
theorem dX8_see_62 : decode cX8_see 62 = .ok (.getfield 105, 3) := by decide +kernel
theorem dX8_see_65 : decode cX8_see 65 = .ok (.ireturn, 1) := by decide +kernel
theorem dX8_forget_0 : decode cX8_forget 0 = .ok (.aload_n 0, 1) := by decide +kernel
theorem dX8_forget_1 : decode cX8_forget 1 = .ok (.getfield 105, 3) := by decide +kernel
theorem dX8_forget_4 : decode cX8_forget 4 = .ok (.istore_n 1, 1) := by decide +kernel
theorem dX8_forget_5 : decode cX8_forget 5 = .ok (.aload_n 0, 1) := by decide +kernel
theorem dX8_forget_6 : decode cX8_forget 6 = .ok (.iconst 0, 1) := by decide +kernel
theorem dX8_forget_7 : decode cX8_forget 7 = .ok (.putfield 105, 3) := by decide +kernel
theorem dX8_forget_10 : decode cX8_forget 10 = .ok (.iload_n 1, 1) := by decide +kernel
theorem dX8_forget_11 : decode cX8_forget 11 = .ok (.ireturn, 1) := by decide +kernel
set_option maxRecDepth 20000 in
theorem ggX8_isSeen_X8_onward : GoodIn wsX8_isSeen wsX8_onward := goodIn_r _ [8, 9, 10, 11, 12, 7, 13, 14, 15, 16, 17, 18, 19, 20, 21, 22, 23, 24, 25, 26, 27, 28, 29, 30, 31, 32, 33] (by decide +kernel) (by decide +kernel)
set_option maxRecDepth 20000 in
theorem gX8_isSeen_X8_onward : GoodIn wsX8_isSeen (wsV RX8 189 RX8 yX8_onward wsX8_onward) := goodIn_app (goodIn_of _ (by decide +kernel)) ggX8_isSeen_X8_onward
theorem dX8_isSeen_0 : decode cX8_isSeen 0 = .ok (.iconst 1, 1) := by decide +kernel
theorem dX8_isSeen_1 : decode cX8_isSeen 1 = .ok (.istore_n 3, 1) := by decide +kernel
theorem dX8_isSeen_2 : decode cX8_isSeen 2 = .ok (.iconst 0, 1) := by decide +kernel
theorem dX8_isSeen_3 : decode cX8_isSeen 3 = .ok (.istore 4, 2) := by decide +kernel
theorem dX8_isSeen_5 : decode cX8_isSeen 5 = .ok (.iload 4, 2) := by decide +kernel
theorem dX8_isSeen_7 : decode cX8_isSeen 7 = .ok (.aload_n 0, 1) := by decide +kernel
theorem dX8_isSeen_8 : decode cX8_isSeen 8 = .ok (.getfield 105, 3) := by decide +kernel
theorem dX8_isSeen_11 : decode cX8_isSeen 11 = .ok (.if_icmp .ge 42, 3) := by decide +kernel
theorem dX8_isSeen_14 : decode cX8_isSeen 14 = .ok (.iload_n 3, 1) := by decide +kernel
theorem dX8_isSeen_15 : decode cX8_isSeen 15 = .ok (.ifCond .eq 30, 3) := by decide +kernel
theorem dX8_isSeen_18 : decode cX8_isSeen 18 = .ok (.aload_n 0, 1) := by decide +kernel
theorem dX8_isSeen_19 : decode cX8_isSeen 19 = .ok (.iload_n 1, 1) := by decide +kernel
theorem dX8_isSeen_20 : decode cX8_isSeen 20 = .ok (.iload_n 2, 1) := by decide +kernel
theorem dX8_isSeen_21 : decode cX8_isSeen 21 = .ok (.aload_n 0, 1) := by decide +kernel
theorem dX8_isSeen_22 : decode cX8_isSeen 22 = .ok (.getfield 37, 3) := by decide +kernel
theorem dX8_isSeen_25 : decode cX8_isSeen 25 = .ok (.iload 4, 2) := by decide +kernel
theorem dX8_isSeen_27 : decode cX8_isSeen 27 = .ok (.iaload, 1) := by decide +kernel
theorem dX8_isSeen_28 : decode cX8_isSeen 28 = .ok (.invokevirtual 189, 3) := by decide +kernel
theorem dX8_isSeen_31 : decode cX8_isSeen 31 = .ok (.aload_n 0, 1) := by decide +kernel
theorem dX8_isSeen_32 : decode cX8_isSeen 32 = .ok (.getfield 34, 3) := by decide +kernel
theorem dX8_isSeen_35 : decode cX8_isSeen 35 = .ok (.iload 4, 2) := by decide +kernel
theorem dX8_isSeen_37 : decode cX8_isSeen 37 = .ok (.iaload, 1) := by decide +kernel
theorem dX8_isSeen_38 : decode cX8_isSeen 38 = .ok (.if_icmp .ne 7, 3) := by decide +kernel
theorem dX8_isSeen_41 : decode cX8_isSeen 41 = .ok (.iconst 1, 1) := by decide +kernel
theorem dX8_isSeen_42 : decode cX8_isSeen 42 = .ok (.goto 4, 3) := by decide +kernel
theorem dX8_isSeen_45 : decode cX8_isSeen 45 = .ok (.iconst 0, 1) := by decide +kernel
theorem dX8_isSeen_46 : decode cX8_isSeen 46 = .ok (.istore_n 3, 1) := by decide +kernel
theorem dX8_isSeen_47 : decode cX8_isSeen 47 = .ok (.iinc 4 1, 3) := by decide +kernel
theorem dX8_isSeen_50 : decode cX8_isSeen 50 = .ok (.goto (-45), 3) := by decide +kernel
theorem dX8_isSeen_53 : decode cX8_isSeen 53 = .ok (.iload_n 3, 1) := by decide +kernel
theorem dX8_isSeen_54 : decode cX8_isSeen 54 = .ok (.ireturn, 1) := by decide +kernel
set_option maxRecDepth 20000 in
theorem ggX8_which_X8_isSeen : GoodIn wsX8_which wsX8_isSeen := goodIn_r _ [7, 8, 9, 10, 11, 12, 13, 6, 14, 2, 15, 16, 17, 18, 1, 19, 20, 21, 22, 23, 24, 25, 26, 27, 28, 29, 30, 31, 32, 33, 34, 35, 36, 37] (by decide +kernel) (by decide +kernel)
set_option maxRecDepth 20000 in
theorem gX8_which_X8_isSeen : GoodIn wsX8_which (wsV RX8 208 RX8 yX8_isSeen wsX8_isSeen) := goodIn_app (goodIn_of _ (by decide +kernel)) ggX8_which_X8_isSeen
theorem dX8_which_0 : decode cX8_which 0 = .ok (.iconst 0, 1) := by decide +kernel
theorem dX8_which_1 : decode cX8_which 1 = .ok (.istore_n 1, 1) := by decide +kernel
theorem dX8_which_2 : decode cX8_which 2 = .ok (.iconst 0, 1) := by decide +kernel
theorem dX8_which_3 : decode cX8_which 3 = .ok (.istore_n 2, 1) := by decide +kernel
theorem dX8_which_4 : decode cX8_which 4 = .ok (.iload_n 2, 1) := by decide +kernel
theorem dX8_which_5 : decode cX8_which 5 = .ok (.aload_n 0, 1) := by decide +kernel
theorem dX8_which_6 : decode cX8_which 6 = .ok (.getfield 22, 3) := by decide +kernel
theorem dX8_which_9 : decode cX8_which 9 = .ok (.iconst 1, 1) := by decide +kernel
theorem dX8_which_10 : decode cX8_which 10 = .ok (.iaload, 1) := by decide +kernel
theorem dX8_which_11 : decode cX8_which 11 = .ok (.if_icmp .ge 35, 3) := by decide +kernel
theorem dX8_which_14 : decode cX8_which 14 = .ok (.iload_n 1, 1) := by decide +kernel
theorem dX8_which_15 : decode cX8_which 15 = .ok (.aload_n 0, 1) := by decide +kernel
theorem dX8_which_16 : decode cX8_which 16 = .ok (.iload_n 2, 1) := by decide +kernel
theorem dX8_which_17 : decode cX8_which 17 = .ok (.aload_n 0, 1) := by decide +kernel
theorem dX8_which_18 : decode cX8_which 18 = .ok (.getfield 25, 3) := by decide +kernel
theorem dX8_which_21 : decode cX8_which 21 = .ok (.iconst 4, 1) := by decide +kernel
theorem dX8_which_22 : decode cX8_which 22 = .ok (.iload_n 2, 1) := by decide +kernel
theorem dX8_which_23 : decode cX8_which 23 = .ok (.iadd, 1) := by decide +kernel
theorem dX8_which_24 : decode cX8_which 24 = .ok (.iaload, 1) := by decide +kernel
theorem dX8_which_25 : decode cX8_which 25 = .ok (.invokevirtual 208, 3) := by decide +kernel
theorem dX8_which_28 : decode cX8_which 28 = .ok (.ifCond .eq 9, 3) := by decide +kernel
theorem dX8_which_31 : decode cX8_which 31 = .ok (.iconst 1, 1) := by decide +kernel
theorem dX8_which_32 : decode cX8_which 32 = .ok (.iload_n 2, 1) := by decide +kernel
theorem dX8_which_33 : decode cX8_which 33 = .ok (.ishl, 1) := by decide +kernel
theorem dX8_which_34 : decode cX8_which 34 = .ok (.goto 4, 3) := by decide +kernel
theorem dX8_which_37 : decode cX8_which 37 = .ok (.iconst 0, 1) := by decide +kernel
theorem dX8_which_38 : decode cX8_which 38 = .ok (.ior, 1) := by decide +kernel
theorem dX8_which_39 : decode cX8_which 39 = .ok (.istore_n 1, 1) := by decide +kernel
theorem dX8_which_40 : decode cX8_which 40 = .ok (.iinc 2 1, 3) := by decide +kernel
theorem dX8_which_43 : decode cX8_which 43 = .ok (.goto (-39), 3) := by decide +kernel
theorem dX8_which_46 : decode cX8_which 46 = .ok (.iload_n 1, 1) := by decide +kernel
theorem dX8_which_47 : decode cX8_which 47 = .ok (.ireturn, 1) := by decide +kernel
set_option maxRecDepth 20000 in
theorem ggX8_set_X8_isParasol : GoodIn wsX8_set wsX8_isParasol := goodIn_r _ [5, 6, 7, 8, 4, 9, 26, 27, 28, 29, 30, 31, 32, 33, 34, 35, 36, 37, 38, 39, 40, 41, 42, 43, 44] (by decide +kernel) (by decide +kernel)
set_option maxRecDepth 20000 in
theorem gX8_set_X8_isParasol : GoodIn wsX8_set (wsV RX8 112 RX8 yX8_isParasol wsX8_isParasol) := goodIn_app (goodIn_of _ (by decide +kernel)) ggX8_set_X8_isParasol
set_option maxRecDepth 20000 in
theorem ggX8_set_X8_isSeen : GoodIn wsX8_set wsX8_isSeen := goodIn_r _ [13, 14, 15, 16, 17, 18, 19, 4, 20, 21, 22, 23, 24, 25, 6, 26, 27, 28, 29, 30, 31, 32, 33, 34, 35, 36, 37, 38, 39, 40, 41, 42, 43, 44] (by decide +kernel) (by decide +kernel)
set_option maxRecDepth 20000 in
theorem gX8_set_X8_isSeen : GoodIn wsX8_set (wsV RX8 208 RX8 yX8_isSeen wsX8_isSeen) := goodIn_app (goodIn_of _ (by decide +kernel)) ggX8_set_X8_isSeen
theorem dX8_set_0 : decode cX8_set 0 = .ok (.aload_n 0, 1) := by decide +kernel
theorem dX8_set_1 : decode cX8_set 1 = .ok (.iload_n 1, 1) := by decide +kernel
theorem dX8_set_2 : decode cX8_set 2 = .ok (.invokevirtual 112, 3) := by decide +kernel
theorem dX8_set_5 : decode cX8_set 5 = .ok (.ifCond .ne 5, 3) := by decide +kernel
theorem dX8_set_8 : decode cX8_set 8 = .ok (.iconst (-1), 1) := by decide +kernel
theorem dX8_set_9 : decode cX8_set 9 = .ok (.ireturn, 1) := by decide +kernel
theorem dX8_set_10 : decode cX8_set 10 = .ok (.iconst 0, 1) := by decide +kernel
theorem dX8_set_11 : decode cX8_set 11 = .ok (.istore_n 2, 1) := by decide +kernel
theorem dX8_set_12 : decode cX8_set 12 = .ok (.iconst 0, 1) := by decide +kernel
theorem dX8_set_13 : decode cX8_set 13 = .ok (.istore_n 3, 1) := by decide +kernel
theorem dX8_set_14 : decode cX8_set 14 = .ok (.iload_n 3, 1) := by decide +kernel
theorem dX8_set_15 : decode cX8_set 15 = .ok (.bipush 24, 2) := by decide +kernel
theorem dX8_set_17 : decode cX8_set 17 = .ok (.if_icmp .ge 28, 3) := by decide +kernel
theorem dX8_set_20 : decode cX8_set 20 = .ok (.iload_n 2, 1) := by decide +kernel
theorem dX8_set_21 : decode cX8_set 21 = .ok (.aload_n 0, 1) := by decide +kernel
theorem dX8_set_22 : decode cX8_set 22 = .ok (.iload_n 1, 1) := by decide +kernel
theorem dX8_set_23 : decode cX8_set 23 = .ok (.iload_n 3, 1) := by decide +kernel
theorem dX8_set_24 : decode cX8_set 24 = .ok (.invokevirtual 208, 3) := by decide +kernel
theorem dX8_set_27 : decode cX8_set 27 = .ok (.ifCond .eq 9, 3) := by decide +kernel
theorem dX8_set_30 : decode cX8_set 30 = .ok (.iconst 1, 1) := by decide +kernel
theorem dX8_set_31 : decode cX8_set 31 = .ok (.iload_n 3, 1) := by decide +kernel
theorem dX8_set_32 : decode cX8_set 32 = .ok (.ishl, 1) := by decide +kernel
theorem dX8_set_33 : decode cX8_set 33 = .ok (.goto 4, 3) := by decide +kernel
theorem dX8_set_36 : decode cX8_set 36 = .ok (.iconst 0, 1) := by decide +kernel
theorem dX8_set_37 : decode cX8_set 37 = .ok (.ior, 1) := by decide +kernel
theorem dX8_set_38 : decode cX8_set 38 = .ok (.istore_n 2, 1) := by decide +kernel
theorem dX8_set_39 : decode cX8_set 39 = .ok (.iinc 3 1, 3) := by decide +kernel
theorem dX8_set_42 : decode cX8_set 42 = .ok (.goto (-28), 3) := by decide +kernel
theorem dX8_set_45 : decode cX8_set 45 = .ok (.iload_n 2, 1) := by decide +kernel
theorem dX8_set_46 : decode cX8_set 46 = .ok (.ireturn, 1) := by decide +kernel
theorem dX8_common_0 : decode cX8_common 0 = .ok (.iload_n 0, 1) := by decide +kernel
theorem dX8_common_1 : decode cX8_common 1 = .ok (.istore_n 2, 1) := by decide +kernel
theorem dX8_common_2 : decode cX8_common 2 = .ok (.iload_n 1, 1) := by decide +kernel
theorem dX8_common_3 : decode cX8_common 3 = .ok (.istore_n 3, 1) := by decide +kernel
theorem dX8_common_4 : decode cX8_common 4 = .ok (.iload_n 3, 1) := by decide +kernel
theorem dX8_common_5 : decode cX8_common 5 = .ok (.ifCond .eq 16, 3) := by decide +kernel
theorem dX8_common_8 : decode cX8_common 8 = .ok (.iload_n 2, 1) := by decide +kernel
theorem dX8_common_9 : decode cX8_common 9 = .ok (.iload_n 3, 1) := by decide +kernel
theorem dX8_common_10 : decode cX8_common 10 = .ok (.irem, 1) := by decide +kernel
theorem dX8_common_11 : decode cX8_common 11 = .ok (.istore 4, 2) := by decide +kernel
theorem dX8_common_13 : decode cX8_common 13 = .ok (.iload_n 3, 1) := by decide +kernel
theorem dX8_common_14 : decode cX8_common 14 = .ok (.istore_n 2, 1) := by decide +kernel
theorem dX8_common_15 : decode cX8_common 15 = .ok (.iload 4, 2) := by decide +kernel
theorem dX8_common_17 : decode cX8_common 17 = .ok (.istore_n 3, 1) := by decide +kernel
theorem dX8_common_18 : decode cX8_common 18 = .ok (.goto (-14), 3) := by decide +kernel
theorem dX8_common_21 : decode cX8_common 21 = .ok (.iload_n 2, 1) := by decide +kernel
theorem dX8_common_22 : decode cX8_common 22 = .ok (.ireturn, 1) := by decide +kernel
set_option maxRecDepth 20000 in
theorem ggX8_flecks_X8_isParasol : GoodIn wsX8_flecks wsX8_isParasol := goodIn_r _ [8, 9, 10, 11, 7, 12, 23, 24, 25, 26, 27, 28, 29, 30, 31, 32, 33, 34, 35, 36, 37, 38, 39, 40, 41] (by decide +kernel) (by decide +kernel)
set_option maxRecDepth 20000 in
theorem gX8_flecks_X8_isParasol : GoodIn wsX8_flecks (wsV RX8 112 RX8 yX8_isParasol wsX8_isParasol) := goodIn_app (goodIn_of _ (by decide +kernel)) ggX8_flecks_X8_isParasol
set_option maxRecDepth 20000 in
theorem ggX8_flecks_X8_isHour : GoodIn wsX8_flecks wsX8_isHour := goodIn_r _ [15, 10, 11, 7, 12] (by decide +kernel) (by decide +kernel)
set_option maxRecDepth 20000 in
theorem gX8_flecks_X8_isHour : GoodIn wsX8_flecks (va_wsS RX8 193 yX8_isHour wsX8_isHour) := goodIn_app (goodIn_of _ (by decide +kernel)) ggX8_flecks_X8_isHour
set_option maxRecDepth 20000 in
theorem ggX8_flecks_X8_in : GoodIn wsX8_flecks wsX8_in := goodIn_r _ [12] (by decide +kernel) (by decide +kernel)
set_option maxRecDepth 20000 in
theorem gX8_flecks_X8_in : GoodIn wsX8_flecks (va_wsS RX8 57 yX8_in wsX8_in) := goodIn_app (goodIn_of _ (by decide +kernel)) ggX8_flecks_X8_in
set_option maxRecDepth 20000 in
theorem ggX8_flecks_X8_goesOn : GoodIn wsX8_flecks wsX8_goesOn := goodIn_r _ [19, 9, 23, 24, 25, 26, 27, 28, 29, 30, 31, 32, 33, 34, 35, 36, 37, 38, 39, 40, 41] (by decide +kernel) (by decide +kernel)
set_option maxRecDepth 20000 in
theorem gX8_flecks_X8_goesOn : GoodIn wsX8_flecks (wsV RX8 149 RX8 yX8_goesOn wsX8_goesOn) := goodIn_app (goodIn_of _ (by decide +kernel)) ggX8_flecks_X8_goesOn
set_option maxRecDepth 20000 in
theorem ggX8_flecks_X8_common : GoodIn wsX8_flecks wsX8_common := goodIn_r _ [22] (by decide +kernel) (by decide +kernel)
set_option maxRecDepth 20000 in
theorem gX8_flecks_X8_common : GoodIn wsX8_flecks (va_wsS RX8 211 yX8_common wsX8_common) := goodIn_app (goodIn_of _ (by decide +kernel)) ggX8_flecks_X8_common
theorem dX8_flecks_0 : decode cX8_flecks 0 = .ok (.aload_n 0, 1) := by decide +kernel
theorem dX8_flecks_1 : decode cX8_flecks 1 = .ok (.iload_n 1, 1) := by decide +kernel
theorem dX8_flecks_2 : decode cX8_flecks 2 = .ok (.invokevirtual 112, 3) := by decide +kernel
theorem dX8_flecks_5 : decode cX8_flecks 5 = .ok (.ifCond .eq 41, 3) := by decide +kernel
theorem dX8_flecks_8 : decode cX8_flecks 8 = .ok (.iload_n 2, 1) := by decide +kernel
theorem dX8_flecks_9 : decode cX8_flecks 9 = .ok (.invokestatic 193, 3) := by decide +kernel
theorem dX8_flecks_12 : decode cX8_flecks 12 = .ok (.ifCond .eq 34, 3) := by decide +kernel
theorem dX8_flecks_15 : decode cX8_flecks 15 = .ok (.iload_n 3, 1) := by decide +kernel
theorem dX8_flecks_16 : decode cX8_flecks 16 = .ok (.iconst 0, 1) := by decide +kernel
theorem dX8_flecks_17 : decode cX8_flecks 17 = .ok (.bipush 8, 2) := by decide +kernel
theorem dX8_flecks_19 : decode cX8_flecks 19 = .ok (.invokestatic 57, 3) := by decide +kernel
theorem dX8_flecks_22 : decode cX8_flecks 22 = .ok (.ifCond .eq 24, 3) := by decide +kernel
theorem dX8_flecks_25 : decode cX8_flecks 25 = .ok (.iload 4, 2) := by decide +kernel
theorem dX8_flecks_27 : decode cX8_flecks 27 = .ok (.iconst 0, 1) := by decide +kernel
theorem dX8_flecks_28 : decode cX8_flecks 28 = .ok (.bipush 10, 2) := by decide +kernel
theorem dX8_flecks_30 : decode cX8_flecks 30 = .ok (.invokestatic 57, 3) := by decide +kernel
theorem dX8_flecks_33 : decode cX8_flecks 33 = .ok (.ifCond .eq 13, 3) := by decide +kernel
theorem dX8_flecks_36 : decode cX8_flecks 36 = .ok (.iload 5, 2) := by decide +kernel
theorem dX8_flecks_38 : decode cX8_flecks 38 = .ok (.iconst 0, 1) := by decide +kernel
theorem dX8_flecks_39 : decode cX8_flecks 39 = .ok (.iconst 1, 1) := by decide +kernel
theorem dX8_flecks_40 : decode cX8_flecks 40 = .ok (.invokestatic 57, 3) := by decide +kernel
theorem dX8_flecks_43 : decode cX8_flecks 43 = .ok (.ifCond .ne 5, 3) := by decide +kernel
theorem dX8_flecks_46 : decode cX8_flecks 46 = .ok (.iconst (-1), 1) := by decide +kernel
theorem dX8_flecks_47 : decode cX8_flecks 47 = .ok (.ireturn, 1) := by decide +kernel
theorem dX8_flecks_48 : decode cX8_flecks 48 = .ok (.iconst 1, 1) := by decide +kernel
theorem dX8_flecks_49 : decode cX8_flecks 49 = .ok (.istore 6, 2) := by decide +kernel
theorem dX8_flecks_51 : decode cX8_flecks 51 = .ok (.iconst 0, 1) := by decide +kernel
theorem dX8_flecks_52 : decode cX8_flecks 52 = .ok (.istore 7, 2) := by decide +kernel
theorem dX8_flecks_54 : decode cX8_flecks 54 = .ok (.iload 7, 2) := by decide +kernel
theorem dX8_flecks_56 : decode cX8_flecks 56 = .ok (.bipush 24, 2) := by decide +kernel
theorem dX8_flecks_58 : decode cX8_flecks 58 = .ok (.if_icmp .ge 34, 3) := by decide +kernel
theorem dX8_flecks_61 : decode cX8_flecks 61 = .ok (.aload_n 0, 1) := by decide +kernel
theorem dX8_flecks_62 : decode cX8_flecks 62 = .ok (.getfield 40, 3) := by decide +kernel
theorem dX8_flecks_65 : decode cX8_flecks 65 = .ok (.iload 7, 2) := by decide +kernel
theorem dX8_flecks_67 : decode cX8_flecks 67 = .ok (.iload 7, 2) := by decide +kernel
theorem dX8_flecks_69 : decode cX8_flecks 69 = .ok (.aload_n 0, 1) := by decide +kernel
theorem dX8_flecks_70 : decode cX8_flecks 70 = .ok (.getfield 25, 3) := by decide +kernel
theorem dX8_flecks_73 : decode cX8_flecks 73 = .ok (.iconst 4, 1) := by decide +kernel
theorem dX8_flecks_74 : decode cX8_flecks 74 = .ok (.iload_n 1, 1) := by decide +kernel
theorem dX8_flecks_75 : decode cX8_flecks 75 = .ok (.iadd, 1) := by decide +kernel
theorem dX8_flecks_76 : decode cX8_flecks 76 = .ok (.iaload, 1) := by decide +kernel
theorem dX8_flecks_77 : decode cX8_flecks 77 = .ok (.if_icmp .ne 7, 3) := by decide +kernel
theorem dX8_flecks_80 : decode cX8_flecks 80 = .ok (.iconst 1, 1) := by decide +kernel
theorem dX8_flecks_81 : decode cX8_flecks 81 = .ok (.goto 4, 3) := by decide +kernel
theorem dX8_flecks_84 : decode cX8_flecks 84 = .ok (.iconst 0, 1) := by decide +kernel
theorem dX8_flecks_85 : decode cX8_flecks 85 = .ok (.iastore, 1) := by decide +kernel
theorem dX8_flecks_86 : decode cX8_flecks 86 = .ok (.iinc 7 1, 3) := by decide +kernel
theorem dX8_flecks_89 : decode cX8_flecks 89 = .ok (.goto (-35), 3) := by decide +kernel
theorem dX8_flecks_92 : decode cX8_flecks 92 = .ok (.iconst 0, 1) := by decide +kernel
theorem dX8_flecks_93 : decode cX8_flecks 93 = .ok (.istore 7, 2) := by decide +kernel
theorem dX8_flecks_95 : decode cX8_flecks 95 = .ok (.iload 7, 2) := by decide +kernel
theorem dX8_flecks_97 : decode cX8_flecks 97 = .ok (.iload_n 3, 1) := by decide +kernel
theorem dX8_flecks_98 : decode cX8_flecks 98 = .ok (.if_icmp .ge 118, 3) := by decide +kernel
theorem dX8_flecks_101 : decode cX8_flecks 101 = .ok (.aload_n 0, 1) := by decide +kernel
theorem dX8_flecks_102 : decode cX8_flecks 102 = .ok (.iload_n 1, 1) := by decide +kernel
theorem dX8_flecks_103 : decode cX8_flecks 103 = .ok (.aload_n 0, 1) := by decide +kernel
theorem dX8_flecks_104 : decode cX8_flecks 104 = .ok (.getfield 25, 3) := by decide +kernel
theorem dX8_flecks_107 : decode cX8_flecks 107 = .ok (.iconst 0, 1) := by decide +kernel
theorem dX8_flecks_108 : decode cX8_flecks 108 = .ok (.iaload, 1) := by decide +kernel
theorem dX8_flecks_109 : decode cX8_flecks 109 = .ok (.iload 7, 2) := by decide +kernel
theorem dX8_flecks_111 : decode cX8_flecks 111 = .ok (.iadd, 1) := by decide +kernel
theorem dX8_flecks_112 : decode cX8_flecks 112 = .ok (.invokevirtual 149, 3) := by decide +kernel
theorem dX8_flecks_115 : decode cX8_flecks 115 = .ok (.istore 8, 2) := by decide +kernel
theorem dX8_flecks_117 : decode cX8_flecks 117 = .ok (.iconst 0, 1) := by decide +kernel
theorem dX8_flecks_118 : decode cX8_flecks 118 = .ok (.istore 9, 2) := by decide +kernel
theorem dX8_flecks_120 : decode cX8_flecks 120 = .ok (.iload 9, 2) := by decide +kernel
theorem dX8_flecks_122 : decode cX8_flecks 122 = .ok (.bipush 24, 2) := by decide +kernel
theorem dX8_flecks_124 : decode cX8_flecks 124 = .ok (.if_icmp .ge 49, 3) := by decide +kernel
theorem dX8_flecks_127 : decode cX8_flecks 127 = .ok (.aload_n 0, 1) := by decide +kernel
theorem dX8_flecks_128 : decode cX8_flecks 128 = .ok (.getfield 43, 3) := by decide +kernel
theorem dX8_flecks_131 : decode cX8_flecks 131 = .ok (.iload 9, 2) := by decide +kernel
theorem dX8_flecks_133 : decode cX8_flecks 133 = .ok (.iload 4, 2) := by decide +kernel
theorem dX8_flecks_135 : decode cX8_flecks 135 = .ok (.aload_n 0, 1) := by decide +kernel
theorem dX8_flecks_136 : decode cX8_flecks 136 = .ok (.getfield 40, 3) := by decide +kernel
theorem dX8_flecks_139 : decode cX8_flecks 139 = .ok (.iload 9, 2) := by decide +kernel
theorem dX8_flecks_141 : decode cX8_flecks 141 = .ok (.bipush 24, 2) := by decide +kernel
theorem dX8_flecks_143 : decode cX8_flecks 143 = .ok (.iadd, 1) := by decide +kernel
theorem dX8_flecks_144 : decode cX8_flecks 144 = .ok (.iload 8, 2) := by decide +kernel
theorem dX8_flecks_146 : decode cX8_flecks 146 = .ok (.isub, 1) := by decide +kernel
theorem dX8_flecks_147 : decode cX8_flecks 147 = .ok (.bipush 24, 2) := by decide +kernel
theorem dX8_flecks_149 : decode cX8_flecks 149 = .ok (.irem, 1) := by decide +kernel
theorem dX8_flecks_150 : decode cX8_flecks 150 = .ok (.iaload, 1) := by decide +kernel
theorem dX8_flecks_151 : decode cX8_flecks 151 = .ok (.imul, 1) := by decide +kernel
theorem dX8_flecks_152 : decode cX8_flecks 152 = .ok (.bipush 10, 2) := by decide +kernel
theorem dX8_flecks_154 : decode cX8_flecks 154 = .ok (.iload 4, 2) := by decide +kernel
theorem dX8_flecks_156 : decode cX8_flecks 156 = .ok (.isub, 1) := by decide +kernel
theorem dX8_flecks_157 : decode cX8_flecks 157 = .ok (.aload_n 0, 1) := by decide +kernel
theorem dX8_flecks_158 : decode cX8_flecks 158 = .ok (.getfield 40, 3) := by decide +kernel
theorem dX8_flecks_161 : decode cX8_flecks 161 = .ok (.iload 9, 2) := by decide +kernel
theorem dX8_flecks_163 : decode cX8_flecks 163 = .ok (.iaload, 1) := by decide +kernel
theorem dX8_flecks_164 : decode cX8_flecks 164 = .ok (.imul, 1) := by decide +kernel
theorem dX8_flecks_165 : decode cX8_flecks 165 = .ok (.iadd, 1) := by decide +kernel
theorem dX8_flecks_166 : decode cX8_flecks 166 = .ok (.iastore, 1) := by decide +kernel
theorem dX8_flecks_167 : decode cX8_flecks 167 = .ok (.iinc 9 1, 3) := by decide +kernel
theorem dX8_flecks_170 : decode cX8_flecks 170 = .ok (.goto (-50), 3) := by decide +kernel
theorem dX8_flecks_173 : decode cX8_flecks 173 = .ok (.iconst 0, 1) := by decide +kernel
theorem dX8_flecks_174 : decode cX8_flecks 174 = .ok (.istore 9, 2) := by decide +kernel
theorem dX8_flecks_176 : decode cX8_flecks 176 = .ok (.iload 9, 2) := by decide +kernel
theorem dX8_flecks_178 : decode cX8_flecks 178 = .ok (.bipush 24, 2) := by decide +kernel
theorem dX8_flecks_180 : decode cX8_flecks 180 = .ok (.if_icmp .ge 23, 3) := by decide +kernel
theorem dX8_flecks_183 : decode cX8_flecks 183 = .ok (.aload_n 0, 1) := by decide +kernel
theorem dX8_flecks_184 : decode cX8_flecks 184 = .ok (.getfield 40, 3) := by decide +kernel
theorem dX8_flecks_187 : decode cX8_flecks 187 = .ok (.iload 9, 2) := by decide +kernel
theorem dX8_flecks_189 : decode cX8_flecks 189 = .ok (.aload_n 0, 1) := by decide +kernel
theorem dX8_flecks_190 : decode cX8_flecks 190 = .ok (.getfield 43, 3) := by decide +kernel
theorem dX8_flecks_193 : decode cX8_flecks 193 = .ok (.iload 9, 2) := by decide +kernel
theorem dX8_flecks_195 : decode cX8_flecks 195 = .ok (.iaload, 1) := by decide +kernel
theorem dX8_flecks_196 : decode cX8_flecks 196 = .ok (.iastore, 1) := by decide +kernel
theorem dX8_flecks_197 : decode cX8_flecks 197 = .ok (.iinc 9 1, 3) := by decide +kernel
theorem dX8_flecks_200 : decode cX8_flecks 200 = .ok (.goto (-24), 3) := by decide +kernel
theorem dX8_flecks_203 : decode cX8_flecks 203 = .ok (.iload 6, 2) := by decide +kernel
theorem dX8_flecks_205 : decode cX8_flecks 205 = .ok (.bipush 10, 2) := by decide +kernel
theorem dX8_flecks_207 : decode cX8_flecks 207 = .ok (.imul, 1) := by decide +kernel
theorem dX8_flecks_208 : decode cX8_flecks 208 = .ok (.istore 6, 2) := by decide +kernel
theorem dX8_flecks_210 : decode cX8_flecks 210 = .ok (.iinc 7 1, 3) := by decide +kernel
theorem dX8_flecks_213 : decode cX8_flecks 213 = .ok (.goto (-118), 3) := by decide +kernel
theorem dX8_flecks_216 : decode cX8_flecks 216 = .ok (.aload_n 0, 1) := by decide +kernel
theorem dX8_flecks_217 : decode cX8_flecks 217 = .ok (.getfield 40, 3) := by decide +kernel
theorem dX8_flecks_220 : decode cX8_flecks 220 = .ok (.iload_n 2, 1) := by decide +kernel
theorem dX8_flecks_221 : decode cX8_flecks 221 = .ok (.iaload, 1) := by decide +kernel
theorem dX8_flecks_222 : decode cX8_flecks 222 = .ok (.iload 6, 2) := by decide +kernel
theorem dX8_flecks_224 : decode cX8_flecks 224 = .ok (.invokestatic 211, 3) := by decide +kernel
theorem dX8_flecks_227 : decode cX8_flecks 227 = .ok (.istore 7, 2) := by decide +kernel
theorem dX8_flecks_229 : decode cX8_flecks 229 = .ok (.iload 5, 2) := by decide +kernel
theorem dX8_flecks_231 : decode cX8_flecks 231 = .ok (.ifCond .ne 15, 3) := by decide +kernel
theorem dX8_flecks_234 : decode cX8_flecks 234 = .ok (.aload_n 0, 1) := by decide +kernel
theorem dX8_flecks_235 : decode cX8_flecks 235 = .ok (.getfield 40, 3) := by decide +kernel
theorem dX8_flecks_238 : decode cX8_flecks 238 = .ok (.iload_n 2, 1) := by decide +kernel
theorem dX8_flecks_239 : decode cX8_flecks 239 = .ok (.iaload, 1) := by decide +kernel
theorem dX8_flecks_240 : decode cX8_flecks 240 = .ok (.iload 7, 2) := by decide +kernel
theorem dX8_flecks_242 : decode cX8_flecks 242 = .ok (.idiv, 1) := by decide +kernel
theorem dX8_flecks_243 : decode cX8_flecks 243 = .ok (.goto 8, 3) := by decide +kernel
theorem dX8_flecks_246 : decode cX8_flecks 246 = .ok (.iload 6, 2) := by decide +kernel
theorem dX8_flecks_248 : decode cX8_flecks 248 = .ok (.iload 7, 2) := by decide +kernel
theorem dX8_flecks_250 : decode cX8_flecks 250 = .ok (.idiv, 1) := by decide +kernel
theorem dX8_flecks_251 : decode cX8_flecks 251 = .ok (.ireturn, 1) := by decide +kernel
set_option maxRecDepth 20000 in
theorem ggX8_draws_X8_takes : GoodIn wsX8_draws wsX8_takes := goodIn_r _ [6, 7, 8, 5, 9, 10, 11, 12, 13, 1, 36, 37, 38, 39, 40, 41, 42, 43, 44, 45, 46, 47, 48, 49, 50, 51, 52, 53, 54] (by decide +kernel) (by decide +kernel)
set_option maxRecDepth 20000 in
theorem gX8_draws_X8_takes : GoodIn wsX8_draws (wsV RX8 165 RX8 yX8_takes wsX8_takes) := goodIn_app (goodIn_of _ (by decide +kernel)) ggX8_draws_X8_takes
set_option maxRecDepth 20000 in
theorem ggX8_draws_X8_shares : GoodIn wsX8_draws wsX8_shares := goodIn_r _ [17, 10, 11, 12, 5, 13, 1, 18, 19, 20, 36, 37, 38, 39, 40, 41, 42, 43, 44, 45, 46, 47, 48, 49, 50, 51, 52, 53, 54] (by decide +kernel) (by decide +kernel)
set_option maxRecDepth 20000 in
theorem gX8_draws_X8_shares : GoodIn wsX8_draws (wsV RX8 173 RX8 yX8_shares wsX8_shares) := goodIn_app (goodIn_of _ (by decide +kernel)) ggX8_draws_X8_shares
set_option maxRecDepth 20000 in
theorem ggX8_draws_X8_gives : GoodIn wsX8_draws wsX8_gives := goodIn_r _ [24, 10, 11, 12, 5, 13, 1, 18, 19, 20, 36, 37, 38, 39, 40, 41, 42, 43, 44, 45, 46, 47, 48, 49, 50, 51, 52, 53, 54] (by decide +kernel) (by decide +kernel)
set_option maxRecDepth 20000 in
theorem gX8_draws_X8_gives : GoodIn wsX8_draws (wsV RX8 176 RX8 yX8_gives wsX8_gives) := goodIn_app (goodIn_of _ (by decide +kernel)) ggX8_draws_X8_gives
set_option maxRecDepth 20000 in
theorem ggX8_draws_X8_mends : GoodIn wsX8_draws wsX8_mends := goodIn_r _ [28, 10, 11, 12, 5, 13, 1, 36, 37, 38, 39, 40, 41, 42, 43, 44, 45, 46, 47, 48, 49, 50, 51, 52, 53, 54] (by decide +kernel) (by decide +kernel)
set_option maxRecDepth 20000 in
theorem gX8_draws_X8_mends : GoodIn wsX8_draws (wsV RX8 182 RX8 yX8_mends wsX8_mends) := goodIn_app (goodIn_of _ (by decide +kernel)) ggX8_draws_X8_mends
set_option maxRecDepth 20000 in
theorem ggX8_draws_X8_walks : GoodIn wsX8_draws wsX8_walks := goodIn_r _ [32, 1, 7, 8, 5, 9, 33, 34, 35, 36, 37, 38, 39, 40, 41, 42, 43, 44, 45, 46, 47, 48, 49, 50, 51, 52, 53, 54] (by decide +kernel) (by decide +kernel)
set_option maxRecDepth 20000 in
theorem gX8_draws_X8_walks : GoodIn wsX8_draws (wsV RX8 179 RX8 yX8_walks wsX8_walks) := goodIn_app (goodIn_of _ (by decide +kernel)) ggX8_draws_X8_walks
theorem dX8_draws_0 : decode cX8_draws 0 = .ok (.iload_n 2, 1) := by decide +kernel
theorem dX8_draws_1 : decode cX8_draws 1 = .ok (.bipush 8, 2) := by decide +kernel
theorem dX8_draws_3 : decode cX8_draws 3 = .ok (.idiv, 1) := by decide +kernel
theorem dX8_draws_4 : decode cX8_draws 4 = .ok (.aload_n 0, 1) := by decide +kernel
theorem dX8_draws_5 : decode cX8_draws 5 = .ok (.getfield 22, 3) := by decide +kernel
theorem dX8_draws_8 : decode cX8_draws 8 = .ok (.iconst 2, 1) := by decide +kernel
theorem dX8_draws_9 : decode cX8_draws 9 = .ok (.iaload, 1) := by decide +kernel
theorem dX8_draws_10 : decode cX8_draws 10 = .ok (.irem, 1) := by decide +kernel
theorem dX8_draws_11 : decode cX8_draws 11 = .ok (.istore_n 3, 1) := by decide +kernel
theorem dX8_draws_12 : decode cX8_draws 12 = .ok (.iload_n 2, 1) := by decide +kernel
theorem dX8_draws_13 : decode cX8_draws 13 = .ok (.bipush 64, 2) := by decide +kernel
theorem dX8_draws_15 : decode cX8_draws 15 = .ok (.idiv, 1) := by decide +kernel
theorem dX8_draws_16 : decode cX8_draws 16 = .ok (.istore 4, 2) := by decide +kernel
theorem dX8_draws_18 : decode cX8_draws 18 = .ok (.iload_n 2, 1) := by decide +kernel
theorem dX8_draws_19 : decode cX8_draws 19 = .ok (.bipush 8, 2) := by decide +kernel
theorem dX8_draws_21 : decode cX8_draws 21 = .ok (.irem, 1) := by decide +kernel
theorem dX8_draws_22 : decode cX8_draws 22 = .ok (.tableswitch 112 0 7 #[46, 46, 65, 84, 112, 112, 112, 94], 46) := by decide +kernel
theorem dX8_draws_68 : decode cX8_draws 68 = .ok (.aload_n 0, 1) := by decide +kernel
theorem dX8_draws_69 : decode cX8_draws 69 = .ok (.aload_n 1, 1) := by decide +kernel
theorem dX8_draws_70 : decode cX8_draws 70 = .ok (.iload_n 3, 1) := by decide +kernel
theorem dX8_draws_71 : decode cX8_draws 71 = .ok (.iload 4, 2) := by decide +kernel
theorem dX8_draws_73 : decode cX8_draws 73 = .ok (.aload_n 0, 1) := by decide +kernel
theorem dX8_draws_74 : decode cX8_draws 74 = .ok (.getfield 22, 3) := by decide +kernel
theorem dX8_draws_77 : decode cX8_draws 77 = .ok (.iconst 1, 1) := by decide +kernel
theorem dX8_draws_78 : decode cX8_draws 78 = .ok (.iaload, 1) := by decide +kernel
theorem dX8_draws_79 : decode cX8_draws 79 = .ok (.irem, 1) := by decide +kernel
theorem dX8_draws_80 : decode cX8_draws 80 = .ok (.invokevirtual 165, 3) := by decide +kernel
theorem dX8_draws_83 : decode cX8_draws 83 = .ok (.pop, 1) := by decide +kernel
theorem dX8_draws_84 : decode cX8_draws 84 = .ok (.goto 61, 3) := by decide +kernel
theorem dX8_draws_87 : decode cX8_draws 87 = .ok (.aload_n 0, 1) := by decide +kernel
theorem dX8_draws_88 : decode cX8_draws 88 = .ok (.aload_n 1, 1) := by decide +kernel
theorem dX8_draws_89 : decode cX8_draws 89 = .ok (.iload_n 3, 1) := by decide +kernel
theorem dX8_draws_90 : decode cX8_draws 90 = .ok (.iload 4, 2) := by decide +kernel
theorem dX8_draws_92 : decode cX8_draws 92 = .ok (.aload_n 0, 1) := by decide +kernel
theorem dX8_draws_93 : decode cX8_draws 93 = .ok (.getfield 22, 3) := by decide +kernel
theorem dX8_draws_96 : decode cX8_draws 96 = .ok (.iconst 2, 1) := by decide +kernel
theorem dX8_draws_97 : decode cX8_draws 97 = .ok (.iaload, 1) := by decide +kernel
theorem dX8_draws_98 : decode cX8_draws 98 = .ok (.irem, 1) := by decide +kernel
theorem dX8_draws_99 : decode cX8_draws 99 = .ok (.invokevirtual 173, 3) := by decide +kernel
theorem dX8_draws_102 : decode cX8_draws 102 = .ok (.pop, 1) := by decide +kernel
theorem dX8_draws_103 : decode cX8_draws 103 = .ok (.goto 42, 3) := by decide +kernel
theorem dX8_draws_106 : decode cX8_draws 106 = .ok (.aload_n 0, 1) := by decide +kernel
theorem dX8_draws_107 : decode cX8_draws 107 = .ok (.aload_n 1, 1) := by decide +kernel
theorem dX8_draws_108 : decode cX8_draws 108 = .ok (.iload_n 3, 1) := by decide +kernel
theorem dX8_draws_109 : decode cX8_draws 109 = .ok (.invokevirtual 176, 3) := by decide +kernel
theorem dX8_draws_112 : decode cX8_draws 112 = .ok (.pop, 1) := by decide +kernel
theorem dX8_draws_113 : decode cX8_draws 113 = .ok (.goto 32, 3) := by decide +kernel
theorem dX8_draws_116 : decode cX8_draws 116 = .ok (.aload_n 0, 1) := by decide +kernel
theorem dX8_draws_117 : decode cX8_draws 117 = .ok (.aload_n 1, 1) := by decide +kernel
theorem dX8_draws_118 : decode cX8_draws 118 = .ok (.iload 4, 2) := by decide +kernel
theorem dX8_draws_120 : decode cX8_draws 120 = .ok (.aload_n 0, 1) := by decide +kernel
theorem dX8_draws_121 : decode cX8_draws 121 = .ok (.getfield 22, 3) := by decide +kernel
theorem dX8_draws_124 : decode cX8_draws 124 = .ok (.iconst 1, 1) := by decide +kernel
theorem dX8_draws_125 : decode cX8_draws 125 = .ok (.iaload, 1) := by decide +kernel
theorem dX8_draws_126 : decode cX8_draws 126 = .ok (.irem, 1) := by decide +kernel
theorem dX8_draws_127 : decode cX8_draws 127 = .ok (.invokevirtual 182, 3) := by decide +kernel
theorem dX8_draws_130 : decode cX8_draws 130 = .ok (.pop, 1) := by decide +kernel
theorem dX8_draws_131 : decode cX8_draws 131 = .ok (.goto 14, 3) := by decide +kernel
theorem dX8_draws_134 : decode cX8_draws 134 = .ok (.aload_n 0, 1) := by decide +kernel
theorem dX8_draws_135 : decode cX8_draws 135 = .ok (.aload_n 1, 1) := by decide +kernel
theorem dX8_draws_136 : decode cX8_draws 136 = .ok (.iload_n 3, 1) := by decide +kernel
theorem dX8_draws_137 : decode cX8_draws 137 = .ok (.iload 4, 2) := by decide +kernel
theorem dX8_draws_139 : decode cX8_draws 139 = .ok (.iconst 2, 1) := by decide +kernel
theorem dX8_draws_140 : decode cX8_draws 140 = .ok (.irem, 1) := by decide +kernel
theorem dX8_draws_141 : decode cX8_draws 141 = .ok (.invokevirtual 179, 3) := by decide +kernel
theorem dX8_draws_144 : decode cX8_draws 144 = .ok (.pop, 1) := by decide +kernel
theorem dX8_draws_145 : decode cX8_draws 145 = .ok (.return_, 1) := by decide +kernel
set_option maxRecDepth 20000 in
theorem ggX8_day_X8_in : GoodIn wsX8_day wsX8_in := goodIn_r _ [9] (by decide +kernel) (by decide +kernel)
set_option maxRecDepth 20000 in
theorem gX8_day_X8_in : GoodIn wsX8_day (va_wsS RX8 57 yX8_in wsX8_in) := goodIn_app (goodIn_of _ (by decide +kernel)) ggX8_day_X8_in
set_option maxRecDepth 20000 in
theorem ggX8_day_X8_copyNow : GoodIn wsX8_day wsX8_copyNow := goodIn_r _ [13, 3, 5, 82, 83, 84, 85, 86, 87, 88, 89, 90, 91, 92, 93, 94, 95, 96, 97, 98, 99, 100] (by decide +kernel) (by decide +kernel)
set_option maxRecDepth 20000 in
theorem gX8_day_X8_copyNow : GoodIn wsX8_day (wsV RX8 162 RX8 yX8_copyNow wsX8_copyNow) := goodIn_app (goodIn_of _ (by decide +kernel)) ggX8_day_X8_copyNow
set_option maxRecDepth 20000 in
theorem ggX8_day_X8_draws : GoodIn wsX8_day wsX8_draws := goodIn_r _ [17, 18, 19, 20, 21, 8, 22, 23, 24, 25, 26, 27, 28, 29, 30, 31, 32, 33, 34, 35, 36, 37, 38, 39, 40, 41, 42, 43, 44, 45, 46, 47, 48, 6, 7, 9, 82, 83, 84, 85, 86, 87, 88, 89, 90, 91, 92, 93, 94, 95, 96, 97, 98, 99, 100] (by decide +kernel) (by decide +kernel)
set_option maxRecDepth 20000 in
theorem gX8_day_X8_draws : GoodIn wsX8_day (wsV RX8 220 RX8 yX8_draws wsX8_draws) := goodIn_app (goodIn_of _ (by decide +kernel)) ggX8_day_X8_draws
set_option maxRecDepth 20000 in
theorem ggX8_day_X8_goes : GoodIn wsX8_day wsX8_goes := goodIn_r _ [52, 18, 53, 54, 55, 8, 56, 23, 24, 25, 57, 58, 59, 60, 61, 62, 63, 64, 65, 66, 26, 27, 28, 29, 67, 68, 69, 70, 71, 72, 73, 74, 75, 76, 77, 78, 79, 80, 81, 82, 83, 84, 85, 86, 87, 88, 89, 90, 91, 92, 93, 94, 95, 96, 97, 98, 99, 100] (by decide +kernel) (by decide +kernel)
set_option maxRecDepth 20000 in
theorem gX8_day_X8_goes : GoodIn wsX8_day (wsV RX8 185 RX8 yX8_goes wsX8_goes) := goodIn_app (goodIn_of _ (by decide +kernel)) ggX8_day_X8_goes
set_option maxRecDepth 20000 in
theorem ggX8_day_X8_bits : GoodIn wsX8_day wsX8_bits := goodIn_r _ [36] (by decide +kernel) (by decide +kernel)
set_option maxRecDepth 20000 in
theorem gX8_day_X8_bits : GoodIn wsX8_day (va_wsS RX8 139 yX8_bits wsX8_bits) := goodIn_app (goodIn_of _ (by decide +kernel)) ggX8_day_X8_bits
theorem dX8_day_0 : decode cX8_day 0 = .ok (.iload_n 1, 1) := by decide +kernel
theorem dX8_day_1 : decode cX8_day 1 = .ok (.iconst 0, 1) := by decide +kernel
theorem dX8_day_2 : decode cX8_day 2 = .ok (.sipush 9999, 3) := by decide +kernel
theorem dX8_day_5 : decode cX8_day 5 = .ok (.invokestatic 57, 3) := by decide +kernel
theorem dX8_day_8 : decode cX8_day 8 = .ok (.ifCond .eq 22, 3) := by decide +kernel
theorem dX8_day_11 : decode cX8_day 11 = .ok (.iload_n 2, 1) := by decide +kernel
theorem dX8_day_12 : decode cX8_day 12 = .ok (.iconst 1, 1) := by decide +kernel
theorem dX8_day_13 : decode cX8_day 13 = .ok (.bipush 60, 2) := by decide +kernel
theorem dX8_day_15 : decode cX8_day 15 = .ok (.invokestatic 57, 3) := by decide +kernel
theorem dX8_day_18 : decode cX8_day 18 = .ok (.ifCond .eq 12, 3) := by decide +kernel
theorem dX8_day_21 : decode cX8_day 21 = .ok (.iload_n 3, 1) := by decide +kernel
theorem dX8_day_22 : decode cX8_day 22 = .ok (.iconst 0, 1) := by decide +kernel
theorem dX8_day_23 : decode cX8_day 23 = .ok (.iconst 1, 1) := by decide +kernel
theorem dX8_day_24 : decode cX8_day 24 = .ok (.invokestatic 57, 3) := by decide +kernel
theorem dX8_day_27 : decode cX8_day 27 = .ok (.ifCond .ne 5, 3) := by decide +kernel
theorem dX8_day_30 : decode cX8_day 30 = .ok (.iconst (-1), 1) := by decide +kernel
theorem dX8_day_31 : decode cX8_day 31 = .ok (.ireturn, 1) := by decide +kernel
theorem dX8_day_32 : decode cX8_day 32 = .ok (.aload_n 0, 1) := by decide +kernel
theorem dX8_day_33 : decode cX8_day 33 = .ok (.invokevirtual 162, 3) := by decide +kernel
theorem dX8_day_36 : decode cX8_day 36 = .ok (.iconst 0, 1) := by decide +kernel
theorem dX8_day_37 : decode cX8_day 37 = .ok (.istore 4, 2) := by decide +kernel
theorem dX8_day_39 : decode cX8_day 39 = .ok (.iload 4, 2) := by decide +kernel
theorem dX8_day_41 : decode cX8_day 41 = .ok (.iload_n 2, 1) := by decide +kernel
theorem dX8_day_42 : decode cX8_day 42 = .ok (.if_icmp .ge 53, 3) := by decide +kernel
theorem dX8_day_45 : decode cX8_day 45 = .ok (.ldc2_w 214, 3) := by decide +kernel
theorem dX8_day_48 : decode cX8_day 48 = .ok (.iload_n 1, 1) := by decide +kernel
theorem dX8_day_49 : decode cX8_day 49 = .ok (.i2l, 1) := by decide +kernel
theorem dX8_day_50 : decode cX8_day 50 = .ok (.lmul, 1) := by decide +kernel
theorem dX8_day_51 : decode cX8_day 51 = .ok (.ldc2_w 216, 3) := by decide +kernel
theorem dX8_day_54 : decode cX8_day 54 = .ok (.iload 4, 2) := by decide +kernel
theorem dX8_day_56 : decode cX8_day 56 = .ok (.i2l, 1) := by decide +kernel
theorem dX8_day_57 : decode cX8_day 57 = .ok (.lmul, 1) := by decide +kernel
theorem dX8_day_58 : decode cX8_day 58 = .ok (.ladd, 1) := by decide +kernel
theorem dX8_day_59 : decode cX8_day 59 = .ok (.lconst 1, 1) := by decide +kernel
theorem dX8_day_60 : decode cX8_day 60 = .ok (.ladd, 1) := by decide +kernel
theorem dX8_day_61 : decode cX8_day 61 = .ok (.lstore 5, 2) := by decide +kernel
theorem dX8_day_63 : decode cX8_day 63 = .ok (.aload_n 0, 1) := by decide +kernel
theorem dX8_day_64 : decode cX8_day 64 = .ok (.aload_n 0, 1) := by decide +kernel
theorem dX8_day_65 : decode cX8_day 65 = .ok (.getfield 28, 3) := by decide +kernel
theorem dX8_day_68 : decode cX8_day 68 = .ok (.lload 5, 2) := by decide +kernel
theorem dX8_day_70 : decode cX8_day 70 = .ok (.lload 5, 2) := by decide +kernel
theorem dX8_day_72 : decode cX8_day 72 = .ok (.lmul, 1) := by decide +kernel
theorem dX8_day_73 : decode cX8_day 73 = .ok (.ldc2_w 218, 3) := by decide +kernel
theorem dX8_day_76 : decode cX8_day 76 = .ok (.lrem, 1) := by decide +kernel
theorem dX8_day_77 : decode cX8_day 77 = .ok (.l2i, 1) := by decide +kernel
theorem dX8_day_78 : decode cX8_day 78 = .ok (.invokevirtual 220, 3) := by decide +kernel
theorem dX8_day_81 : decode cX8_day 81 = .ok (.aload_n 0, 1) := by decide +kernel
theorem dX8_day_82 : decode cX8_day 82 = .ok (.aload_n 0, 1) := by decide +kernel
theorem dX8_day_83 : decode cX8_day 83 = .ok (.getfield 28, 3) := by decide +kernel
theorem dX8_day_86 : decode cX8_day 86 = .ok (.invokevirtual 185, 3) := by decide +kernel
theorem dX8_day_89 : decode cX8_day 89 = .ok (.iinc 4 1, 3) := by decide +kernel
theorem dX8_day_92 : decode cX8_day 92 = .ok (.goto (-53), 3) := by decide +kernel
theorem dX8_day_95 : decode cX8_day 95 = .ok (.iload_n 3, 1) := by decide +kernel
theorem dX8_day_96 : decode cX8_day 96 = .ok (.ifCond .ne 15, 3) := by decide +kernel
theorem dX8_day_99 : decode cX8_day 99 = .ok (.aload_n 0, 1) := by decide +kernel
theorem dX8_day_100 : decode cX8_day 100 = .ok (.getfield 28, 3) := by decide +kernel
theorem dX8_day_103 : decode cX8_day 103 = .ok (.iconst 2, 1) := by decide +kernel
theorem dX8_day_104 : decode cX8_day 104 = .ok (.iaload, 1) := by decide +kernel
theorem dX8_day_105 : decode cX8_day 105 = .ok (.invokestatic 139, 3) := by decide +kernel
theorem dX8_day_108 : decode cX8_day 108 = .ok (.goto 16, 3) := by decide +kernel
theorem dX8_day_111 : decode cX8_day 111 = .ok (.aload_n 0, 1) := by decide +kernel
theorem dX8_day_112 : decode cX8_day 112 = .ok (.getfield 28, 3) := by decide +kernel
theorem dX8_day_115 : decode cX8_day 115 = .ok (.iconst 1, 1) := by decide +kernel
theorem dX8_day_116 : decode cX8_day 116 = .ok (.iaload, 1) := by decide +kernel
theorem dX8_day_117 : decode cX8_day 117 = .ok (.aload_n 0, 1) := by decide +kernel
theorem dX8_day_118 : decode cX8_day 118 = .ok (.getfield 25, 3) := by decide +kernel
theorem dX8_day_121 : decode cX8_day 121 = .ok (.iconst 1, 1) := by decide +kernel
theorem dX8_day_122 : decode cX8_day 122 = .ok (.iaload, 1) := by decide +kernel
theorem dX8_day_123 : decode cX8_day 123 = .ok (.isub, 1) := by decide +kernel
theorem dX8_day_124 : decode cX8_day 124 = .ok (.ireturn, 1) := by decide +kernel
theorem dX8_keep_0 : decode cX8_keep 0 = .ok (.aload_n 0, 1) := by decide +kernel
theorem dX8_keep_1 : decode cX8_keep 1 = .ok (.getfield 102, 3) := by decide +kernel
theorem dX8_keep_4 : decode cX8_keep 4 = .ok (.iconst 2, 1) := by decide +kernel
theorem dX8_keep_5 : decode cX8_keep 5 = .ok (.if_icmp .ne 6, 3) := by decide +kernel
theorem dX8_keep_8 : decode cX8_keep 8 = .ok (.bipush (-3), 2) := by decide +kernel
theorem dX8_keep_10 : decode cX8_keep 10 = .ok (.ireturn, 1) := by decide +kernel
theorem dX8_keep_11 : decode cX8_keep 11 = .ok (.iconst 0, 1) := by decide +kernel
theorem dX8_keep_12 : decode cX8_keep 12 = .ok (.istore_n 1, 1) := by decide +kernel
theorem dX8_keep_13 : decode cX8_keep 13 = .ok (.iload_n 1, 1) := by decide +kernel
theorem dX8_keep_14 : decode cX8_keep 14 = .ok (.bipush 26, 2) := by decide +kernel
theorem dX8_keep_16 : decode cX8_keep 16 = .ok (.if_icmp .ge 29, 3) := by decide +kernel
theorem dX8_keep_19 : decode cX8_keep 19 = .ok (.aload_n 0, 1) := by decide +kernel
theorem dX8_keep_20 : decode cX8_keep 20 = .ok (.getfield 46, 3) := by decide +kernel
theorem dX8_keep_23 : decode cX8_keep 23 = .ok (.bipush 26, 2) := by decide +kernel
theorem dX8_keep_25 : decode cX8_keep 25 = .ok (.aload_n 0, 1) := by decide +kernel
theorem dX8_keep_26 : decode cX8_keep 26 = .ok (.getfield 102, 3) := by decide +kernel
theorem dX8_keep_29 : decode cX8_keep 29 = .ok (.imul, 1) := by decide +kernel
theorem dX8_keep_30 : decode cX8_keep 30 = .ok (.iload_n 1, 1) := by decide +kernel
theorem dX8_keep_31 : decode cX8_keep 31 = .ok (.iadd, 1) := by decide +kernel
theorem dX8_keep_32 : decode cX8_keep 32 = .ok (.aload_n 0, 1) := by decide +kernel
theorem dX8_keep_33 : decode cX8_keep 33 = .ok (.getfield 25, 3) := by decide +kernel
theorem dX8_keep_36 : decode cX8_keep 36 = .ok (.iload_n 1, 1) := by decide +kernel
theorem dX8_keep_37 : decode cX8_keep 37 = .ok (.iaload, 1) := by decide +kernel
theorem dX8_keep_38 : decode cX8_keep 38 = .ok (.iastore, 1) := by decide +kernel
theorem dX8_keep_39 : decode cX8_keep 39 = .ok (.iinc 1 1, 3) := by decide +kernel
theorem dX8_keep_42 : decode cX8_keep 42 = .ok (.goto (-29), 3) := by decide +kernel
theorem dX8_keep_45 : decode cX8_keep 45 = .ok (.aload_n 0, 1) := by decide +kernel
theorem dX8_keep_46 : decode cX8_keep 46 = .ok (.dup, 1) := by decide +kernel
theorem dX8_keep_47 : decode cX8_keep 47 = .ok (.getfield 102, 3) := by decide +kernel
theorem dX8_keep_50 : decode cX8_keep 50 = .ok (.iconst 1, 1) := by decide +kernel
theorem dX8_keep_51 : decode cX8_keep 51 = .ok (.iadd, 1) := by decide +kernel
theorem dX8_keep_52 : decode cX8_keep 52 = .ok (.putfield 102, 3) := by decide +kernel
theorem dX8_keep_55 : decode cX8_keep 55 = .ok (.aload_n 0, 1) := by decide +kernel
theorem dX8_keep_56 : decode cX8_keep 56 = .ok (.getfield 102, 3) := by decide +kernel
theorem dX8_keep_59 : decode cX8_keep 59 = .ok (.ireturn, 1) := by decide +kernel
theorem dX8_back_0 : decode cX8_back 0 = .ok (.aload_n 0, 1) := by decide +kernel
theorem dX8_back_1 : decode cX8_back 1 = .ok (.getfield 102, 3) := by decide +kernel
theorem dX8_back_4 : decode cX8_back 4 = .ok (.ifCond .ne 6, 3) := by decide +kernel
theorem dX8_back_7 : decode cX8_back 7 = .ok (.bipush (-2), 2) := by decide +kernel
theorem dX8_back_9 : decode cX8_back 9 = .ok (.ireturn, 1) := by decide +kernel
theorem dX8_back_10 : decode cX8_back 10 = .ok (.aload_n 0, 1) := by decide +kernel
theorem dX8_back_11 : decode cX8_back 11 = .ok (.dup, 1) := by decide +kernel
theorem dX8_back_12 : decode cX8_back 12 = .ok (.getfield 102, 3) := by decide +kernel
theorem dX8_back_15 : decode cX8_back 15 = .ok (.iconst 1, 1) := by decide +kernel
theorem dX8_back_16 : decode cX8_back 16 = .ok (.isub, 1) := by decide +kernel
theorem dX8_back_17 : decode cX8_back 17 = .ok (.putfield 102, 3) := by decide +kernel
theorem dX8_back_20 : decode cX8_back 20 = .ok (.aload_n 0, 1) := by decide +kernel
theorem dX8_back_21 : decode cX8_back 21 = .ok (.iconst 0, 1) := by decide +kernel
theorem dX8_back_22 : decode cX8_back 22 = .ok (.putfield 99, 3) := by decide +kernel
theorem dX8_back_25 : decode cX8_back 25 = .ok (.iconst 0, 1) := by decide +kernel
theorem dX8_back_26 : decode cX8_back 26 = .ok (.istore_n 1, 1) := by decide +kernel
theorem dX8_back_27 : decode cX8_back 27 = .ok (.iload_n 1, 1) := by decide +kernel
theorem dX8_back_28 : decode cX8_back 28 = .ok (.bipush 26, 2) := by decide +kernel
theorem dX8_back_30 : decode cX8_back 30 = .ok (.if_icmp .ge 29, 3) := by decide +kernel
theorem dX8_back_33 : decode cX8_back 33 = .ok (.aload_n 0, 1) := by decide +kernel
theorem dX8_back_34 : decode cX8_back 34 = .ok (.getfield 25, 3) := by decide +kernel
theorem dX8_back_37 : decode cX8_back 37 = .ok (.iload_n 1, 1) := by decide +kernel
theorem dX8_back_38 : decode cX8_back 38 = .ok (.aload_n 0, 1) := by decide +kernel
theorem dX8_back_39 : decode cX8_back 39 = .ok (.getfield 46, 3) := by decide +kernel
theorem dX8_back_42 : decode cX8_back 42 = .ok (.bipush 26, 2) := by decide +kernel
theorem dX8_back_44 : decode cX8_back 44 = .ok (.aload_n 0, 1) := by decide +kernel
theorem dX8_back_45 : decode cX8_back 45 = .ok (.getfield 102, 3) := by decide +kernel
theorem dX8_back_48 : decode cX8_back 48 = .ok (.imul, 1) := by decide +kernel
theorem dX8_back_49 : decode cX8_back 49 = .ok (.iload_n 1, 1) := by decide +kernel
theorem dX8_back_50 : decode cX8_back 50 = .ok (.iadd, 1) := by decide +kernel
theorem dX8_back_51 : decode cX8_back 51 = .ok (.iaload, 1) := by decide +kernel
theorem dX8_back_52 : decode cX8_back 52 = .ok (.iastore, 1) := by decide +kernel
theorem dX8_back_53 : decode cX8_back 53 = .ok (.iinc 1 1, 3) := by decide +kernel
theorem dX8_back_56 : decode cX8_back 56 = .ok (.goto (-29), 3) := by decide +kernel
theorem dX8_back_59 : decode cX8_back 59 = .ok (.aload_n 0, 1) := by decide +kernel
theorem dX8_back_60 : decode cX8_back 60 = .ok (.getfield 102, 3) := by decide +kernel
theorem dX8_back_63 : decode cX8_back 63 = .ok (.ireturn, 1) := by decide +kernel
set_option maxRecDepth 20000 in
theorem ggX8_inStand_X8_under : GoodIn wsX8_inStand wsX8_under := goodIn_r _ [7, 1, 8, 9, 10, 11, 12, 13, 14, 15, 16, 17, 18, 19, 20, 21, 22, 23, 24, 25, 26] (by decide +kernel) (by decide +kernel)
set_option maxRecDepth 20000 in
theorem gX8_inStand_X8_under : GoodIn wsX8_inStand (wsV RX8 115 RX8 yX8_under wsX8_under) := goodIn_app (goodIn_of _ (by decide +kernel)) ggX8_inStand_X8_under
theorem dX8_inStand_0 : decode cX8_inStand 0 = .ok (.iconst 0, 1) := by decide +kernel
theorem dX8_inStand_1 : decode cX8_inStand 1 = .ok (.istore_n 1, 1) := by decide +kernel
theorem dX8_inStand_2 : decode cX8_inStand 2 = .ok (.iconst 0, 1) := by decide +kernel
theorem dX8_inStand_3 : decode cX8_inStand 3 = .ok (.istore_n 2, 1) := by decide +kernel
theorem dX8_inStand_4 : decode cX8_inStand 4 = .ok (.iload_n 2, 1) := by decide +kernel
theorem dX8_inStand_5 : decode cX8_inStand 5 = .ok (.aload_n 0, 1) := by decide +kernel
theorem dX8_inStand_6 : decode cX8_inStand 6 = .ok (.getfield 22, 3) := by decide +kernel
theorem dX8_inStand_9 : decode cX8_inStand 9 = .ok (.iconst 1, 1) := by decide +kernel
theorem dX8_inStand_10 : decode cX8_inStand 10 = .ok (.iaload, 1) := by decide +kernel
theorem dX8_inStand_11 : decode cX8_inStand 11 = .ok (.if_icmp .ge 29, 3) := by decide +kernel
theorem dX8_inStand_14 : decode cX8_inStand 14 = .ok (.iload_n 1, 1) := by decide +kernel
theorem dX8_inStand_15 : decode cX8_inStand 15 = .ok (.aload_n 0, 1) := by decide +kernel
theorem dX8_inStand_16 : decode cX8_inStand 16 = .ok (.aload_n 0, 1) := by decide +kernel
theorem dX8_inStand_17 : decode cX8_inStand 17 = .ok (.getfield 25, 3) := by decide +kernel
theorem dX8_inStand_20 : decode cX8_inStand 20 = .ok (.iload_n 2, 1) := by decide +kernel
theorem dX8_inStand_21 : decode cX8_inStand 21 = .ok (.invokevirtual 115, 3) := by decide +kernel
theorem dX8_inStand_24 : decode cX8_inStand 24 = .ok (.ifCond .ne 7, 3) := by decide +kernel
theorem dX8_inStand_27 : decode cX8_inStand 27 = .ok (.iconst 1, 1) := by decide +kernel
theorem dX8_inStand_28 : decode cX8_inStand 28 = .ok (.goto 4, 3) := by decide +kernel
theorem dX8_inStand_31 : decode cX8_inStand 31 = .ok (.iconst 0, 1) := by decide +kernel
theorem dX8_inStand_32 : decode cX8_inStand 32 = .ok (.iadd, 1) := by decide +kernel
theorem dX8_inStand_33 : decode cX8_inStand 33 = .ok (.istore_n 1, 1) := by decide +kernel
theorem dX8_inStand_34 : decode cX8_inStand 34 = .ok (.iinc 2 1, 3) := by decide +kernel
theorem dX8_inStand_37 : decode cX8_inStand 37 = .ok (.goto (-33), 3) := by decide +kernel
theorem dX8_inStand_40 : decode cX8_inStand 40 = .ok (.iload_n 1, 1) := by decide +kernel
theorem dX8_inStand_41 : decode cX8_inStand 41 = .ok (.ireturn, 1) := by decide +kernel
set_option maxRecDepth 20000 in
theorem ggX8_count_X8_bits : GoodIn wsX8_count wsX8_bits := goodIn_r _ [10] (by decide +kernel) (by decide +kernel)
set_option maxRecDepth 20000 in
theorem gX8_count_X8_bits : GoodIn wsX8_count (va_wsS RX8 139 yX8_bits wsX8_bits) := goodIn_app (goodIn_of _ (by decide +kernel)) ggX8_count_X8_bits
set_option maxRecDepth 20000 in
theorem ggX8_count_X8_inStand : GoodIn wsX8_count wsX8_inStand := goodIn_r _ [14, 1, 2, 15, 16, 17, 9, 18, 19, 20, 21, 22, 23, 24, 25, 26, 27, 28, 29, 30, 31, 32, 33, 34, 35, 36, 37] (by decide +kernel) (by decide +kernel)
set_option maxRecDepth 20000 in
theorem gX8_count_X8_inStand : GoodIn wsX8_count (wsV RX8 224 RX8 yX8_inStand wsX8_inStand) := goodIn_app (goodIn_of _ (by decide +kernel)) ggX8_count_X8_inStand
theorem dX8_count_0 : decode cX8_count 0 = .ok (.iload_n 1, 1) := by decide +kernel
theorem dX8_count_1 : decode cX8_count 1 = .ok (.tableswitch 154 0 12 #[67, 74, 81, 88, 95, 102, 112, 119, 129, 134, 139, 144, 149], 67) := by decide +kernel
theorem dX8_count_68 : decode cX8_count 68 = .ok (.aload_n 0, 1) := by decide +kernel
theorem dX8_count_69 : decode cX8_count 69 = .ok (.getfield 22, 3) := by decide +kernel
theorem dX8_count_72 : decode cX8_count 72 = .ok (.iconst 0, 1) := by decide +kernel
theorem dX8_count_73 : decode cX8_count 73 = .ok (.iaload, 1) := by decide +kernel
theorem dX8_count_74 : decode cX8_count 74 = .ok (.ireturn, 1) := by decide +kernel
theorem dX8_count_75 : decode cX8_count 75 = .ok (.aload_n 0, 1) := by decide +kernel
theorem dX8_count_76 : decode cX8_count 76 = .ok (.getfield 22, 3) := by decide +kernel
theorem dX8_count_79 : decode cX8_count 79 = .ok (.iconst 1, 1) := by decide +kernel
theorem dX8_count_80 : decode cX8_count 80 = .ok (.iaload, 1) := by decide +kernel
theorem dX8_count_81 : decode cX8_count 81 = .ok (.ireturn, 1) := by decide +kernel
theorem dX8_count_82 : decode cX8_count 82 = .ok (.aload_n 0, 1) := by decide +kernel
theorem dX8_count_83 : decode cX8_count 83 = .ok (.getfield 22, 3) := by decide +kernel
theorem dX8_count_86 : decode cX8_count 86 = .ok (.iconst 2, 1) := by decide +kernel
theorem dX8_count_87 : decode cX8_count 87 = .ok (.iaload, 1) := by decide +kernel
theorem dX8_count_88 : decode cX8_count 88 = .ok (.ireturn, 1) := by decide +kernel
theorem dX8_count_89 : decode cX8_count 89 = .ok (.aload_n 0, 1) := by decide +kernel
theorem dX8_count_90 : decode cX8_count 90 = .ok (.getfield 22, 3) := by decide +kernel
theorem dX8_count_93 : decode cX8_count 93 = .ok (.iconst 3, 1) := by decide +kernel
theorem dX8_count_94 : decode cX8_count 94 = .ok (.iaload, 1) := by decide +kernel
theorem dX8_count_95 : decode cX8_count 95 = .ok (.ireturn, 1) := by decide +kernel
theorem dX8_count_96 : decode cX8_count 96 = .ok (.aload_n 0, 1) := by decide +kernel
theorem dX8_count_97 : decode cX8_count 97 = .ok (.getfield 25, 3) := by decide +kernel
theorem dX8_count_100 : decode cX8_count 100 = .ok (.iconst 0, 1) := by decide +kernel
theorem dX8_count_101 : decode cX8_count 101 = .ok (.iaload, 1) := by decide +kernel
theorem dX8_count_102 : decode cX8_count 102 = .ok (.ireturn, 1) := by decide +kernel
theorem dX8_count_103 : decode cX8_count 103 = .ok (.aload_n 0, 1) := by decide +kernel
theorem dX8_count_104 : decode cX8_count 104 = .ok (.getfield 25, 3) := by decide +kernel
theorem dX8_count_107 : decode cX8_count 107 = .ok (.iconst 2, 1) := by decide +kernel
theorem dX8_count_108 : decode cX8_count 108 = .ok (.iaload, 1) := by decide +kernel
theorem dX8_count_109 : decode cX8_count 109 = .ok (.invokestatic 139, 3) := by decide +kernel
theorem dX8_count_112 : decode cX8_count 112 = .ok (.ireturn, 1) := by decide +kernel
theorem dX8_count_113 : decode cX8_count 113 = .ok (.aload_n 0, 1) := by decide +kernel
theorem dX8_count_114 : decode cX8_count 114 = .ok (.getfield 25, 3) := by decide +kernel
theorem dX8_count_117 : decode cX8_count 117 = .ok (.iconst 1, 1) := by decide +kernel
theorem dX8_count_118 : decode cX8_count 118 = .ok (.iaload, 1) := by decide +kernel
theorem dX8_count_119 : decode cX8_count 119 = .ok (.ireturn, 1) := by decide +kernel
theorem dX8_count_120 : decode cX8_count 120 = .ok (.aload_n 0, 1) := by decide +kernel
theorem dX8_count_121 : decode cX8_count 121 = .ok (.getfield 25, 3) := by decide +kernel
theorem dX8_count_124 : decode cX8_count 124 = .ok (.iconst 3, 1) := by decide +kernel
theorem dX8_count_125 : decode cX8_count 125 = .ok (.iaload, 1) := by decide +kernel
theorem dX8_count_126 : decode cX8_count 126 = .ok (.invokestatic 139, 3) := by decide +kernel
theorem dX8_count_129 : decode cX8_count 129 = .ok (.ireturn, 1) := by decide +kernel
theorem dX8_count_130 : decode cX8_count 130 = .ok (.aload_n 0, 1) := by decide +kernel
theorem dX8_count_131 : decode cX8_count 131 = .ok (.invokevirtual 224, 3) := by decide +kernel
theorem dX8_count_134 : decode cX8_count 134 = .ok (.ireturn, 1) := by decide +kernel
theorem dX8_count_135 : decode cX8_count 135 = .ok (.aload_n 0, 1) := by decide +kernel
theorem dX8_count_136 : decode cX8_count 136 = .ok (.getfield 105, 3) := by decide +kernel
theorem dX8_count_139 : decode cX8_count 139 = .ok (.ireturn, 1) := by decide +kernel
theorem dX8_count_140 : decode cX8_count 140 = .ok (.aload_n 0, 1) := by decide +kernel
theorem dX8_count_141 : decode cX8_count 141 = .ok (.getfield 99, 3) := by decide +kernel
theorem dX8_count_144 : decode cX8_count 144 = .ok (.ireturn, 1) := by decide +kernel
theorem dX8_count_145 : decode cX8_count 145 = .ok (.aload_n 0, 1) := by decide +kernel
theorem dX8_count_146 : decode cX8_count 146 = .ok (.getfield 102, 3) := by decide +kernel
theorem dX8_count_149 : decode cX8_count 149 = .ok (.ireturn, 1) := by decide +kernel
theorem dX8_count_150 : decode cX8_count 150 = .ok (.aload_n 0, 1) := by decide +kernel
theorem dX8_count_151 : decode cX8_count 151 = .ok (.getfield 61, 3) := by decide +kernel
theorem dX8_count_154 : decode cX8_count 154 = .ok (.ireturn, 1) := by decide +kernel
theorem dX8_count_155 : decode cX8_count 155 = .ok (.iconst (-1), 1) := by decide +kernel
theorem dX8_count_156 : decode cX8_count 156 = .ok (.ireturn, 1) := by decide +kernel
theorem dJ6_bitCount_0f7a4_0 : decode cJ6_bitCount_0f7a4 0 = .ok (.iload_n 0, 1) := by decide +kernel
theorem dJ6_bitCount_0f7a4_1 : decode cJ6_bitCount_0f7a4 1 = .ok (.iload_n 0, 1) := by decide +kernel
theorem dJ6_bitCount_0f7a4_2 : decode cJ6_bitCount_0f7a4 2 = .ok (.iconst 1, 1) := by decide +kernel
theorem dJ6_bitCount_0f7a4_3 : decode cJ6_bitCount_0f7a4 3 = .ok (.iushr, 1) := by decide +kernel
theorem dJ6_bitCount_0f7a4_4 : decode cJ6_bitCount_0f7a4 4 = .ok (.ldc_w 265, 3) := by decide +kernel
theorem dJ6_bitCount_0f7a4_7 : decode cJ6_bitCount_0f7a4 7 = .ok (.iand, 1) := by decide +kernel
theorem dJ6_bitCount_0f7a4_8 : decode cJ6_bitCount_0f7a4 8 = .ok (.isub, 1) := by decide +kernel
theorem dJ6_bitCount_0f7a4_9 : decode cJ6_bitCount_0f7a4 9 = .ok (.istore_n 0, 1) := by decide +kernel
theorem dJ6_bitCount_0f7a4_10 : decode cJ6_bitCount_0f7a4 10 = .ok (.iload_n 0, 1) := by decide +kernel
theorem dJ6_bitCount_0f7a4_11 : decode cJ6_bitCount_0f7a4 11 = .ok (.ldc_w 266, 3) := by decide +kernel
theorem dJ6_bitCount_0f7a4_14 : decode cJ6_bitCount_0f7a4 14 = .ok (.iand, 1) := by decide +kernel
theorem dJ6_bitCount_0f7a4_15 : decode cJ6_bitCount_0f7a4 15 = .ok (.iload_n 0, 1) := by decide +kernel
theorem dJ6_bitCount_0f7a4_16 : decode cJ6_bitCount_0f7a4 16 = .ok (.iconst 2, 1) := by decide +kernel
theorem dJ6_bitCount_0f7a4_17 : decode cJ6_bitCount_0f7a4 17 = .ok (.iushr, 1) := by decide +kernel
theorem dJ6_bitCount_0f7a4_18 : decode cJ6_bitCount_0f7a4 18 = .ok (.ldc_w 266, 3) := by decide +kernel
theorem dJ6_bitCount_0f7a4_21 : decode cJ6_bitCount_0f7a4 21 = .ok (.iand, 1) := by decide +kernel
theorem dJ6_bitCount_0f7a4_22 : decode cJ6_bitCount_0f7a4 22 = .ok (.iadd, 1) := by decide +kernel
theorem dJ6_bitCount_0f7a4_23 : decode cJ6_bitCount_0f7a4 23 = .ok (.istore_n 0, 1) := by decide +kernel
theorem dJ6_bitCount_0f7a4_24 : decode cJ6_bitCount_0f7a4 24 = .ok (.iload_n 0, 1) := by decide +kernel
theorem dJ6_bitCount_0f7a4_25 : decode cJ6_bitCount_0f7a4 25 = .ok (.iload_n 0, 1) := by decide +kernel
theorem dJ6_bitCount_0f7a4_26 : decode cJ6_bitCount_0f7a4 26 = .ok (.iconst 4, 1) := by decide +kernel
theorem dJ6_bitCount_0f7a4_27 : decode cJ6_bitCount_0f7a4 27 = .ok (.iushr, 1) := by decide +kernel
theorem dJ6_bitCount_0f7a4_28 : decode cJ6_bitCount_0f7a4 28 = .ok (.iadd, 1) := by decide +kernel
theorem dJ6_bitCount_0f7a4_29 : decode cJ6_bitCount_0f7a4 29 = .ok (.ldc_w 267, 3) := by decide +kernel
theorem dJ6_bitCount_0f7a4_32 : decode cJ6_bitCount_0f7a4 32 = .ok (.iand, 1) := by decide +kernel
theorem dJ6_bitCount_0f7a4_33 : decode cJ6_bitCount_0f7a4 33 = .ok (.istore_n 0, 1) := by decide +kernel
theorem dJ6_bitCount_0f7a4_34 : decode cJ6_bitCount_0f7a4 34 = .ok (.iload_n 0, 1) := by decide +kernel
theorem dJ6_bitCount_0f7a4_35 : decode cJ6_bitCount_0f7a4 35 = .ok (.iload_n 0, 1) := by decide +kernel
theorem dJ6_bitCount_0f7a4_36 : decode cJ6_bitCount_0f7a4 36 = .ok (.bipush 8, 2) := by decide +kernel
theorem dJ6_bitCount_0f7a4_38 : decode cJ6_bitCount_0f7a4 38 = .ok (.iushr, 1) := by decide +kernel
theorem dJ6_bitCount_0f7a4_39 : decode cJ6_bitCount_0f7a4 39 = .ok (.iadd, 1) := by decide +kernel
theorem dJ6_bitCount_0f7a4_40 : decode cJ6_bitCount_0f7a4 40 = .ok (.istore_n 0, 1) := by decide +kernel
theorem dJ6_bitCount_0f7a4_41 : decode cJ6_bitCount_0f7a4 41 = .ok (.iload_n 0, 1) := by decide +kernel
theorem dJ6_bitCount_0f7a4_42 : decode cJ6_bitCount_0f7a4 42 = .ok (.iload_n 0, 1) := by decide +kernel
theorem dJ6_bitCount_0f7a4_43 : decode cJ6_bitCount_0f7a4 43 = .ok (.bipush 16, 2) := by decide +kernel
theorem dJ6_bitCount_0f7a4_45 : decode cJ6_bitCount_0f7a4 45 = .ok (.iushr, 1) := by decide +kernel
theorem dJ6_bitCount_0f7a4_46 : decode cJ6_bitCount_0f7a4 46 = .ok (.iadd, 1) := by decide +kernel
theorem dJ6_bitCount_0f7a4_47 : decode cJ6_bitCount_0f7a4 47 = .ok (.istore_n 0, 1) := by decide +kernel
theorem dJ6_bitCount_0f7a4_48 : decode cJ6_bitCount_0f7a4 48 = .ok (.iload_n 0, 1) := by decide +kernel
theorem dJ6_bitCount_0f7a4_49 : decode cJ6_bitCount_0f7a4 49 = .ok (.bipush 63, 2) := by decide +kernel
theorem dJ6_bitCount_0f7a4_51 : decode cJ6_bitCount_0f7a4 51 = .ok (.iand, 1) := by decide +kernel
theorem dJ6_bitCount_0f7a4_52 : decode cJ6_bitCount_0f7a4 52 = .ok (.ireturn, 1) := by decide +kernel
theorem dJ9_min_7cf53_0 : decode cJ9_min_7cf53 0 = .ok (.iload_n 0, 1) := by decide +kernel
theorem dJ9_min_7cf53_1 : decode cJ9_min_7cf53 1 = .ok (.iload_n 1, 1) := by decide +kernel
theorem dJ9_min_7cf53_2 : decode cJ9_min_7cf53 2 = .ok (.if_icmp .gt 7, 3) := by decide +kernel
theorem dJ9_min_7cf53_5 : decode cJ9_min_7cf53 5 = .ok (.iload_n 0, 1) := by decide +kernel
theorem dJ9_min_7cf53_6 : decode cJ9_min_7cf53 6 = .ok (.goto 4, 3) := by decide +kernel
theorem dJ9_min_7cf53_9 : decode cJ9_min_7cf53 9 = .ok (.iload_n 1, 1) := by decide +kernel
theorem dJ9_min_7cf53_10 : decode cJ9_min_7cf53 10 = .ok (.ireturn, 1) := by decide +kernel
set_option maxRecDepth 20000 in
theorem ggJ0_length_8abf5_J0_coder_7d493 : GoodIn wsJ0_length_8abf5 wsJ0_coder_7d493 := goodIn_r _ [6, 7, 8] (by decide +kernel) (by decide +kernel)
set_option maxRecDepth 20000 in
theorem gJ0_length_8abf5_J0_coder_7d493 : GoodIn wsJ0_length_8abf5 (wsV RJ0 335 RJ0 yJ0_coder_7d493 wsJ0_coder_7d493) := goodIn_app (goodIn_of _ (by decide +kernel)) ggJ0_length_8abf5_J0_coder_7d493
theorem dJ0_length_8abf5_0 : decode cJ0_length_8abf5 0 = .ok (.aload_n 0, 1) := by decide +kernel
theorem dJ0_length_8abf5_1 : decode cJ0_length_8abf5 1 = .ok (.getfield 9, 3) := by decide +kernel
theorem dJ0_length_8abf5_4 : decode cJ0_length_8abf5 4 = .ok (.arraylength, 1) := by decide +kernel
theorem dJ0_length_8abf5_5 : decode cJ0_length_8abf5 5 = .ok (.aload_n 0, 1) := by decide +kernel
theorem dJ0_length_8abf5_6 : decode cJ0_length_8abf5 6 = .ok (.invokevirtual 335, 3) := by decide +kernel
theorem dJ0_length_8abf5_9 : decode cJ0_length_8abf5 9 = .ok (.ishr, 1) := by decide +kernel
theorem dJ0_length_8abf5_10 : decode cJ0_length_8abf5 10 = .ok (.ireturn, 1) := by decide +kernel
set_option maxRecDepth 20000 in
theorem ggJ0_charAt_5068e_J0_isLatin1_aae02 : GoodIn wsJ0_charAt_5068e wsJ0_isLatin1_aae02 := goodIn_r _ [6, 7, 8] (by decide +kernel) (by decide +kernel)
set_option maxRecDepth 20000 in
theorem gJ0_charAt_5068e_J0_isLatin1_aae02 : GoodIn wsJ0_charAt_5068e (wsV RJ0 492 RJ0 yJ0_isLatin1_aae02 wsJ0_isLatin1_aae02) := goodIn_app (goodIn_of _ (by decide +kernel)) ggJ0_charAt_5068e_J0_isLatin1_aae02
set_option maxRecDepth 20000 in
theorem ggJ0_charAt_5068e_J1_charAt_3b067 : GoodIn wsJ0_charAt_5068e wsJ1_charAt_3b067 := goodIn_r _ [12, 13, 14, 5, 15, 16, 17, 18, 19, 20] (by decide +kernel) (by decide +kernel)
set_option maxRecDepth 20000 in
theorem gJ0_charAt_5068e_J1_charAt_3b067 : GoodIn wsJ0_charAt_5068e (va_wsS RJ0 495 yJ1_charAt_3b067 wsJ1_charAt_3b067) := goodIn_app (goodIn_of _ (by decide +kernel)) ggJ0_charAt_5068e_J1_charAt_3b067
set_option maxRecDepth 20000 in
theorem ggJ0_charAt_5068e_J2_charAt_3b067 : GoodIn wsJ0_charAt_5068e wsJ2_charAt_3b067 := goodIn_r _ [24, 25, 26, 23, 27, 28, 29, 30, 31, 14, 5, 15, 16, 17, 18, 19, 20, 32, 33, 34, 35, 36, 37] (by decide +kernel) (by decide +kernel)
set_option maxRecDepth 20000 in
theorem gJ0_charAt_5068e_J2_charAt_3b067 : GoodIn wsJ0_charAt_5068e (va_wsS RJ0 498 yJ2_charAt_3b067 wsJ2_charAt_3b067) := goodIn_app (goodIn_of _ (by decide +kernel)) ggJ0_charAt_5068e_J2_charAt_3b067
theorem dJ0_charAt_5068e_0 : decode cJ0_charAt_5068e 0 = .ok (.aload_n 0, 1) := by decide +kernel
theorem dJ0_charAt_5068e_1 : decode cJ0_charAt_5068e 1 = .ok (.invokevirtual 492, 3) := by decide +kernel
theorem dJ0_charAt_5068e_4 : decode cJ0_charAt_5068e 4 = .ok (.ifCond .eq 12, 3) := by decide +kernel
theorem dJ0_charAt_5068e_7 : decode cJ0_charAt_5068e 7 = .ok (.aload_n 0, 1) := by decide +kernel
theorem dJ0_charAt_5068e_8 : decode cJ0_charAt_5068e 8 = .ok (.getfield 9, 3) := by decide +kernel
theorem dJ0_charAt_5068e_11 : decode cJ0_charAt_5068e 11 = .ok (.iload_n 1, 1) := by decide +kernel
theorem dJ0_charAt_5068e_12 : decode cJ0_charAt_5068e 12 = .ok (.invokestatic 495, 3) := by decide +kernel
theorem dJ0_charAt_5068e_15 : decode cJ0_charAt_5068e 15 = .ok (.ireturn, 1) := by decide +kernel
theorem dJ0_charAt_5068e_16 : decode cJ0_charAt_5068e 16 = .ok (.aload_n 0, 1) := by decide +kernel
theorem dJ0_charAt_5068e_17 : decode cJ0_charAt_5068e 17 = .ok (.getfield 9, 3) := by decide +kernel
theorem dJ0_charAt_5068e_20 : decode cJ0_charAt_5068e 20 = .ok (.iload_n 1, 1) := by decide +kernel
theorem dJ0_charAt_5068e_21 : decode cJ0_charAt_5068e 21 = .ok (.invokestatic 498, 3) := by decide +kernel
theorem dJ0_charAt_5068e_24 : decode cJ0_charAt_5068e 24 = .ok (.ireturn, 1) := by decide +kernel
theorem dJ0_coder_7d493_0 : decode cJ0_coder_7d493 0 = .ok (.getstatic 38, 3) := by decide +kernel
theorem dJ0_coder_7d493_3 : decode cJ0_coder_7d493 3 = .ok (.ifCond .eq 10, 3) := by decide +kernel
theorem dJ0_coder_7d493_6 : decode cJ0_coder_7d493 6 = .ok (.aload_n 0, 1) := by decide +kernel
theorem dJ0_coder_7d493_7 : decode cJ0_coder_7d493 7 = .ok (.getfield 15, 3) := by decide +kernel
theorem dJ0_coder_7d493_10 : decode cJ0_coder_7d493 10 = .ok (.goto 4, 3) := by decide +kernel
theorem dJ0_coder_7d493_13 : decode cJ0_coder_7d493 13 = .ok (.iconst 1, 1) := by decide +kernel
theorem dJ0_coder_7d493_14 : decode cJ0_coder_7d493 14 = .ok (.ireturn, 1) := by decide +kernel
theorem dJ0_isLatin1_aae02_0 : decode cJ0_isLatin1_aae02 0 = .ok (.getstatic 38, 3) := by decide +kernel
theorem dJ0_isLatin1_aae02_3 : decode cJ0_isLatin1_aae02 3 = .ok (.ifCond .eq 14, 3) := by decide +kernel
theorem dJ0_isLatin1_aae02_6 : decode cJ0_isLatin1_aae02 6 = .ok (.aload_n 0, 1) := by decide +kernel
theorem dJ0_isLatin1_aae02_7 : decode cJ0_isLatin1_aae02 7 = .ok (.getfield 15, 3) := by decide +kernel
theorem dJ0_isLatin1_aae02_10 : decode cJ0_isLatin1_aae02 10 = .ok (.ifCond .ne 7, 3) := by decide +kernel
theorem dJ0_isLatin1_aae02_13 : decode cJ0_isLatin1_aae02 13 = .ok (.iconst 1, 1) := by decide +kernel
theorem dJ0_isLatin1_aae02_14 : decode cJ0_isLatin1_aae02 14 = .ok (.goto 4, 3) := by decide +kernel
theorem dJ0_isLatin1_aae02_17 : decode cJ0_isLatin1_aae02 17 = .ok (.iconst 0, 1) := by decide +kernel
theorem dJ0_isLatin1_aae02_18 : decode cJ0_isLatin1_aae02 18 = .ok (.ireturn, 1) := by decide +kernel
set_option maxRecDepth 20000 in
theorem ggJ0_checkIndex_df160_J3_checkIndex_8e157 : GoodIn wsJ0_checkIndex_df160 wsJ3_checkIndex_8e157 := goodIn_r _ [5] (by decide +kernel) (by decide +kernel)
set_option maxRecDepth 20000 in
theorem gJ0_checkIndex_df160_J3_checkIndex_8e157 : GoodIn wsJ0_checkIndex_df160 (va_wsS RJ0 1059 yJ3_checkIndex_8e157 wsJ3_checkIndex_8e157) := goodIn_app (goodIn_of _ (by decide +kernel)) ggJ0_checkIndex_df160_J3_checkIndex_8e157
theorem dJ0_checkIndex_df160_0 : decode cJ0_checkIndex_df160 0 = .ok (.iload_n 0, 1) := by decide +kernel
theorem dJ0_checkIndex_df160_1 : decode cJ0_checkIndex_df160 1 = .ok (.iload_n 1, 1) := by decide +kernel
theorem dJ0_checkIndex_df160_2 : decode cJ0_checkIndex_df160 2 = .ok (.getstatic 1053, 3) := by decide +kernel
theorem dJ0_checkIndex_df160_5 : decode cJ0_checkIndex_df160 5 = .ok (.invokestatic 1059, 3) := by decide +kernel
theorem dJ0_checkIndex_df160_8 : decode cJ0_checkIndex_df160 8 = .ok (.pop, 1) := by decide +kernel
theorem dJ0_checkIndex_df160_9 : decode cJ0_checkIndex_df160 9 = .ok (.return_, 1) := by decide +kernel
set_option maxRecDepth 20000 in
theorem ggJ1_charAt_3b067_J0_checkIndex_df160 : GoodIn wsJ1_charAt_3b067 wsJ0_checkIndex_df160 := goodIn_r _ [4, 5, 6, 7, 8, 9] (by decide +kernel) (by decide +kernel)
set_option maxRecDepth 20000 in
theorem gJ1_charAt_3b067_J0_checkIndex_df160 : GoodIn wsJ1_charAt_3b067 (va_wsS RJ1 9 yJ0_checkIndex_df160 wsJ0_checkIndex_df160) := goodIn_app (goodIn_of _ (by decide +kernel)) ggJ1_charAt_3b067_J0_checkIndex_df160
theorem dJ1_charAt_3b067_0 : decode cJ1_charAt_3b067 0 = .ok (.iload_n 1, 1) := by decide +kernel
theorem dJ1_charAt_3b067_1 : decode cJ1_charAt_3b067 1 = .ok (.aload_n 0, 1) := by decide +kernel
theorem dJ1_charAt_3b067_2 : decode cJ1_charAt_3b067 2 = .ok (.arraylength, 1) := by decide +kernel
theorem dJ1_charAt_3b067_3 : decode cJ1_charAt_3b067 3 = .ok (.invokestatic 9, 3) := by decide +kernel
theorem dJ1_charAt_3b067_6 : decode cJ1_charAt_3b067 6 = .ok (.aload_n 0, 1) := by decide +kernel
theorem dJ1_charAt_3b067_7 : decode cJ1_charAt_3b067 7 = .ok (.iload_n 1, 1) := by decide +kernel
theorem dJ1_charAt_3b067_8 : decode cJ1_charAt_3b067 8 = .ok (.baload, 1) := by decide +kernel
theorem dJ1_charAt_3b067_9 : decode cJ1_charAt_3b067 9 = .ok (.sipush 255, 3) := by decide +kernel
theorem dJ1_charAt_3b067_12 : decode cJ1_charAt_3b067 12 = .ok (.iand, 1) := by decide +kernel
theorem dJ1_charAt_3b067_13 : decode cJ1_charAt_3b067 13 = .ok (.i2c, 1) := by decide +kernel
theorem dJ1_charAt_3b067_14 : decode cJ1_charAt_3b067 14 = .ok (.ireturn, 1) := by decide +kernel
set_option maxRecDepth 20000 in
theorem ggJ2_getChar_3b067_J2_length_9d52b : GoodIn wsJ2_getChar_3b067 wsJ2_length_9d52b := goodIn_r _ [7] (by decide +kernel) (by decide +kernel)
set_option maxRecDepth 20000 in
theorem gJ2_getChar_3b067_J2_length_9d52b : GoodIn wsJ2_getChar_3b067 (va_wsS RJ2 48 yJ2_length_9d52b wsJ2_length_9d52b) := goodIn_app (goodIn_of _ (by decide +kernel)) ggJ2_getChar_3b067_J2_length_9d52b
theorem dJ2_getChar_3b067_0 : decode cJ2_getChar_3b067 0 = .ok (.getstatic 44, 3) := by decide +kernel
theorem dJ2_getChar_3b067_3 : decode cJ2_getChar_3b067 3 = .ok (.ifCond .ne 25, 3) := by decide +kernel
theorem dJ2_getChar_3b067_6 : decode cJ2_getChar_3b067 6 = .ok (.iload_n 1, 1) := by decide +kernel
theorem dJ2_getChar_3b067_7 : decode cJ2_getChar_3b067 7 = .ok (.ifCond .lt 11, 3) := by decide +kernel
theorem dJ2_getChar_3b067_10 : decode cJ2_getChar_3b067 10 = .ok (.iload_n 1, 1) := by decide +kernel
theorem dJ2_getChar_3b067_11 : decode cJ2_getChar_3b067 11 = .ok (.aload_n 0, 1) := by decide +kernel
theorem dJ2_getChar_3b067_12 : decode cJ2_getChar_3b067 12 = .ok (.invokestatic 48, 3) := by decide +kernel
theorem dJ2_getChar_3b067_15 : decode cJ2_getChar_3b067 15 = .ok (.if_icmp .lt 13, 3) := by decide +kernel
theorem dJ2_getChar_3b067_18 : decode cJ2_getChar_3b067 18 = .ok (.new 52, 3) := by decide +kernel
theorem dJ2_getChar_3b067_21 : decode cJ2_getChar_3b067 21 = .ok (.dup, 1) := by decide +kernel
theorem dJ2_getChar_3b067_22 : decode cJ2_getChar_3b067 22 = .ok (.ldc 54, 2) := by decide +kernel
theorem dJ2_getChar_3b067_24 : decode cJ2_getChar_3b067 24 = .ok (.invokespecial 56, 3) := by decide +kernel
theorem dJ2_getChar_3b067_27 : decode cJ2_getChar_3b067 27 = .ok (.athrow, 1) := by decide +kernel
theorem dJ2_getChar_3b067_28 : decode cJ2_getChar_3b067 28 = .ok (.iload_n 1, 1) := by decide +kernel
theorem dJ2_getChar_3b067_29 : decode cJ2_getChar_3b067 29 = .ok (.iconst 1, 1) := by decide +kernel
theorem dJ2_getChar_3b067_30 : decode cJ2_getChar_3b067 30 = .ok (.ishl, 1) := by decide +kernel
theorem dJ2_getChar_3b067_31 : decode cJ2_getChar_3b067 31 = .ok (.istore_n 1, 1) := by decide +kernel
theorem dJ2_getChar_3b067_32 : decode cJ2_getChar_3b067 32 = .ok (.aload_n 0, 1) := by decide +kernel
theorem dJ2_getChar_3b067_33 : decode cJ2_getChar_3b067 33 = .ok (.iload_n 1, 1) := by decide +kernel
theorem dJ2_getChar_3b067_34 : decode cJ2_getChar_3b067 34 = .ok (.iinc 1 1, 3) := by decide +kernel
theorem dJ2_getChar_3b067_37 : decode cJ2_getChar_3b067 37 = .ok (.baload, 1) := by decide +kernel
theorem dJ2_getChar_3b067_38 : decode cJ2_getChar_3b067 38 = .ok (.sipush 255, 3) := by decide +kernel
theorem dJ2_getChar_3b067_41 : decode cJ2_getChar_3b067 41 = .ok (.iand, 1) := by decide +kernel
theorem dJ2_getChar_3b067_42 : decode cJ2_getChar_3b067 42 = .ok (.getstatic 59, 3) := by decide +kernel
theorem dJ2_getChar_3b067_45 : decode cJ2_getChar_3b067 45 = .ok (.ishl, 1) := by decide +kernel
theorem dJ2_getChar_3b067_46 : decode cJ2_getChar_3b067 46 = .ok (.aload_n 0, 1) := by decide +kernel
theorem dJ2_getChar_3b067_47 : decode cJ2_getChar_3b067 47 = .ok (.iload_n 1, 1) := by decide +kernel
theorem dJ2_getChar_3b067_48 : decode cJ2_getChar_3b067 48 = .ok (.baload, 1) := by decide +kernel
theorem dJ2_getChar_3b067_49 : decode cJ2_getChar_3b067 49 = .ok (.sipush 255, 3) := by decide +kernel
theorem dJ2_getChar_3b067_52 : decode cJ2_getChar_3b067 52 = .ok (.iand, 1) := by decide +kernel
theorem dJ2_getChar_3b067_53 : decode cJ2_getChar_3b067 53 = .ok (.getstatic 63, 3) := by decide +kernel
theorem dJ2_getChar_3b067_56 : decode cJ2_getChar_3b067 56 = .ok (.ishl, 1) := by decide +kernel
theorem dJ2_getChar_3b067_57 : decode cJ2_getChar_3b067 57 = .ok (.ior, 1) := by decide +kernel
theorem dJ2_getChar_3b067_58 : decode cJ2_getChar_3b067 58 = .ok (.i2c, 1) := by decide +kernel
theorem dJ2_getChar_3b067_59 : decode cJ2_getChar_3b067 59 = .ok (.ireturn, 1) := by decide +kernel
theorem dJ2_length_9d52b_0 : decode cJ2_length_9d52b 0 = .ok (.aload_n 0, 1) := by decide +kernel
theorem dJ2_length_9d52b_1 : decode cJ2_length_9d52b 1 = .ok (.arraylength, 1) := by decide +kernel
theorem dJ2_length_9d52b_2 : decode cJ2_length_9d52b 2 = .ok (.iconst 1, 1) := by decide +kernel
theorem dJ2_length_9d52b_3 : decode cJ2_length_9d52b 3 = .ok (.ishr, 1) := by decide +kernel
theorem dJ2_length_9d52b_4 : decode cJ2_length_9d52b 4 = .ok (.ireturn, 1) := by decide +kernel
set_option maxRecDepth 20000 in
theorem ggJ2_charAt_3b067_J2_checkIndex_2214a : GoodIn wsJ2_charAt_3b067 wsJ2_checkIndex_2214a := goodIn_r _ [4, 5, 6, 3, 7, 8, 9, 10, 11, 12, 13, 14, 15, 16] (by decide +kernel) (by decide +kernel)
set_option maxRecDepth 20000 in
theorem gJ2_charAt_3b067_J2_checkIndex_2214a : GoodIn wsJ2_charAt_3b067 (va_wsS RJ2 67 yJ2_checkIndex_2214a wsJ2_checkIndex_2214a) := goodIn_app (goodIn_of _ (by decide +kernel)) ggJ2_charAt_3b067_J2_checkIndex_2214a
set_option maxRecDepth 20000 in
theorem ggJ2_charAt_3b067_J2_getChar_3b067 : GoodIn wsJ2_charAt_3b067 wsJ2_getChar_3b067 := goodIn_r _ [19, 20, 21, 22, 5, 6, 3, 7] (by decide +kernel) (by decide +kernel)
set_option maxRecDepth 20000 in
theorem gJ2_charAt_3b067_J2_getChar_3b067 : GoodIn wsJ2_charAt_3b067 (va_wsS RJ2 71 yJ2_getChar_3b067 wsJ2_getChar_3b067) := goodIn_app (goodIn_of _ (by decide +kernel)) ggJ2_charAt_3b067_J2_getChar_3b067
theorem dJ2_charAt_3b067_0 : decode cJ2_charAt_3b067 0 = .ok (.iload_n 1, 1) := by decide +kernel
theorem dJ2_charAt_3b067_1 : decode cJ2_charAt_3b067 1 = .ok (.aload_n 0, 1) := by decide +kernel
theorem dJ2_charAt_3b067_2 : decode cJ2_charAt_3b067 2 = .ok (.invokestatic 67, 3) := by decide +kernel
theorem dJ2_charAt_3b067_5 : decode cJ2_charAt_3b067 5 = .ok (.aload_n 0, 1) := by decide +kernel
theorem dJ2_charAt_3b067_6 : decode cJ2_charAt_3b067 6 = .ok (.iload_n 1, 1) := by decide +kernel
theorem dJ2_charAt_3b067_7 : decode cJ2_charAt_3b067 7 = .ok (.invokestatic 71, 3) := by decide +kernel
theorem dJ2_charAt_3b067_10 : decode cJ2_charAt_3b067 10 = .ok (.ireturn, 1) := by decide +kernel
set_option maxRecDepth 20000 in
theorem ggJ2_checkIndex_2214a_J2_length_9d52b : GoodIn wsJ2_checkIndex_2214a wsJ2_length_9d52b := goodIn_r _ [4] (by decide +kernel) (by decide +kernel)
set_option maxRecDepth 20000 in
theorem gJ2_checkIndex_2214a_J2_length_9d52b : GoodIn wsJ2_checkIndex_2214a (va_wsS RJ2 48 yJ2_length_9d52b wsJ2_length_9d52b) := goodIn_app (goodIn_of _ (by decide +kernel)) ggJ2_checkIndex_2214a_J2_length_9d52b
set_option maxRecDepth 20000 in
theorem ggJ2_checkIndex_2214a_J0_checkIndex_df160 : GoodIn wsJ2_checkIndex_2214a wsJ0_checkIndex_df160 := goodIn_r _ [8, 9, 10, 11, 12, 13] (by decide +kernel) (by decide +kernel)
set_option maxRecDepth 20000 in
theorem gJ2_checkIndex_2214a_J0_checkIndex_df160 : GoodIn wsJ2_checkIndex_2214a (va_wsS RJ2 414 yJ0_checkIndex_df160 wsJ0_checkIndex_df160) := goodIn_app (goodIn_of _ (by decide +kernel)) ggJ2_checkIndex_2214a_J0_checkIndex_df160
theorem dJ2_checkIndex_2214a_0 : decode cJ2_checkIndex_2214a 0 = .ok (.iload_n 0, 1) := by decide +kernel
theorem dJ2_checkIndex_2214a_1 : decode cJ2_checkIndex_2214a 1 = .ok (.aload_n 1, 1) := by decide +kernel
theorem dJ2_checkIndex_2214a_2 : decode cJ2_checkIndex_2214a 2 = .ok (.invokestatic 48, 3) := by decide +kernel
theorem dJ2_checkIndex_2214a_5 : decode cJ2_checkIndex_2214a 5 = .ok (.invokestatic 414, 3) := by decide +kernel
theorem dJ2_checkIndex_2214a_8 : decode cJ2_checkIndex_2214a 8 = .ok (.return_, 1) := by decide +kernel
theorem dJ3_checkIndex_8e157_0 : decode cJ3_checkIndex_8e157 0 = .ok (.iload_n 0, 1) := by decide +kernel
theorem dJ3_checkIndex_8e157_1 : decode cJ3_checkIndex_8e157 1 = .ok (.ifCond .lt 8, 3) := by decide +kernel
theorem dJ3_checkIndex_8e157_4 : decode cJ3_checkIndex_8e157 4 = .ok (.iload_n 0, 1) := by decide +kernel
theorem dJ3_checkIndex_8e157_5 : decode cJ3_checkIndex_8e157 5 = .ok (.iload_n 1, 1) := by decide +kernel
theorem dJ3_checkIndex_8e157_6 : decode cJ3_checkIndex_8e157 6 = .ok (.if_icmp .lt 10, 3) := by decide +kernel
theorem dJ3_checkIndex_8e157_9 : decode cJ3_checkIndex_8e157 9 = .ok (.aload_n 2, 1) := by decide +kernel
theorem dJ3_checkIndex_8e157_10 : decode cJ3_checkIndex_8e157 10 = .ok (.iload_n 0, 1) := by decide +kernel
theorem dJ3_checkIndex_8e157_11 : decode cJ3_checkIndex_8e157 11 = .ok (.iload_n 1, 1) := by decide +kernel
theorem dJ3_checkIndex_8e157_12 : decode cJ3_checkIndex_8e157 12 = .ok (.invokestatic 95, 3) := by decide +kernel
theorem dJ3_checkIndex_8e157_15 : decode cJ3_checkIndex_8e157 15 = .ok (.athrow, 1) := by decide +kernel
theorem dJ3_checkIndex_8e157_16 : decode cJ3_checkIndex_8e157 16 = .ok (.iload_n 0, 1) := by decide +kernel
theorem dJ3_checkIndex_8e157_17 : decode cJ3_checkIndex_8e157 17 = .ok (.ireturn, 1) := by decide +kernel
