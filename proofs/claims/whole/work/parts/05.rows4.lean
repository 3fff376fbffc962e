theorem dX8_errors_119 : decode cX8_errors 119 = .ok (.getfield 29, 3) := by decide +kernel
theorem dX8_errors_122 : decode cX8_errors 122 = .ok (.aload_n 0, 1) := by decide +kernel
theorem dX8_errors_123 : decode cX8_errors 123 = .ok (.getfield 29, 3) := by decide +kernel
theorem dX8_errors_126 : decode cX8_errors 126 = .ok (.iconst 1, 1) := by decide +kernel
theorem dX8_errors_127 : decode cX8_errors 127 = .ok (.iaload, 1) := by decide +kernel
theorem dX8_errors_128 : decode cX8_errors 128 = .ok (.aload_n 0, 1) := by decide +kernel
theorem dX8_errors_129 : decode cX8_errors 129 = .ok (.getfield 29, 3) := by decide +kernel
theorem dX8_errors_132 : decode cX8_errors 132 = .ok (.bipush 23, 2) := by decide +kernel
theorem dX8_errors_134 : decode cX8_errors 134 = .ok (.aload_n 0, 1) := by decide +kernel
theorem dX8_errors_135 : decode cX8_errors 135 = .ok (.getfield 29, 3) := by decide +kernel
theorem dX8_errors_138 : decode cX8_errors 138 = .ok (.iconst 1, 1) := by decide +kernel
theorem dX8_errors_139 : decode cX8_errors 139 = .ok (.iaload, 1) := by decide +kernel
theorem dX8_errors_140 : decode cX8_errors 140 = .ok (.iadd, 1) := by decide +kernel
theorem dX8_errors_141 : decode cX8_errors 141 = .ok (.iaload, 1) := by decide +kernel
theorem dX8_errors_142 : decode cX8_errors 142 = .ok (.iload 11, 2) := by decide +kernel
theorem dX8_errors_144 : decode cX8_errors 144 = .ok (.invokestatic 122, 3) := by decide +kernel
theorem dX8_errors_147 : decode cX8_errors 147 = .ok (.istore 12, 2) := by decide +kernel
theorem dX8_errors_149 : decode cX8_errors 149 = .ok (.iload 8, 2) := by decide +kernel
theorem dX8_errors_151 : decode cX8_errors 151 = .ok (.iload 7, 2) := by decide +kernel
theorem dX8_errors_153 : decode cX8_errors 153 = .ok (.iload 10, 2) := by decide +kernel
theorem dX8_errors_155 : decode cX8_errors 155 = .ok (.invokestatic 164, 3) := by decide +kernel
theorem dX8_errors_158 : decode cX8_errors 158 = .ok (.ifCond .eq 7, 3) := by decide +kernel
theorem dX8_errors_161 : decode cX8_errors 161 = .ok (.iload_n 3, 1) := by decide +kernel
theorem dX8_errors_162 : decode cX8_errors 162 = .ok (.goto 7, 3) := by decide +kernel
theorem dX8_errors_165 : decode cX8_errors 165 = .ok (.bipush 10, 2) := by decide +kernel
theorem dX8_errors_167 : decode cX8_errors 167 = .ok (.iload_n 3, 1) := by decide +kernel
theorem dX8_errors_168 : decode cX8_errors 168 = .ok (.isub, 1) := by decide +kernel
theorem dX8_errors_169 : decode cX8_errors 169 = .ok (.imul, 1) := by decide +kernel
theorem dX8_errors_170 : decode cX8_errors 170 = .ok (.istore 8, 2) := by decide +kernel
theorem dX8_errors_172 : decode cX8_errors 172 = .ok (.aload_n 0, 1) := by decide +kernel
theorem dX8_errors_173 : decode cX8_errors 173 = .ok (.getfield 29, 3) := by decide +kernel
theorem dX8_errors_176 : decode cX8_errors 176 = .ok (.iload 7, 2) := by decide +kernel
theorem dX8_errors_178 : decode cX8_errors 178 = .ok (.iload 10, 2) := by decide +kernel
theorem dX8_errors_180 : decode cX8_errors 180 = .ok (.invokestatic 164, 3) := by decide +kernel
theorem dX8_errors_183 : decode cX8_errors 183 = .ok (.ifCond .eq 8, 3) := by decide +kernel
theorem dX8_errors_186 : decode cX8_errors 186 = .ok (.iload 12, 2) := by decide +kernel
theorem dX8_errors_188 : decode cX8_errors 188 = .ok (.goto 5, 3) := by decide +kernel
theorem dX8_errors_191 : decode cX8_errors 191 = .ok (.bipush (-4), 2) := by decide +kernel
theorem dX8_errors_193 : decode cX8_errors 193 = .ok (.invokestatic 143, 3) := by decide +kernel
theorem dX8_errors_196 : decode cX8_errors 196 = .ok (.istore 9, 2) := by decide +kernel
theorem dX8_errors_198 : decode cX8_errors 198 = .ok (.iinc 10 1, 3) := by decide +kernel
theorem dX8_errors_201 : decode cX8_errors 201 = .ok (.goto (-97), 3) := by decide +kernel
theorem dX8_errors_204 : decode cX8_errors 204 = .ok (.iload 5, 2) := by decide +kernel
theorem dX8_errors_206 : decode cX8_errors 206 = .ok (.iload 9, 2) := by decide +kernel
theorem dX8_errors_208 : decode cX8_errors 208 = .ok (.iload_n 1, 1) := by decide +kernel
theorem dX8_errors_209 : decode cX8_errors 209 = .ok (.if_icmp .ne 8, 3) := by decide +kernel
theorem dX8_errors_212 : decode cX8_errors 212 = .ok (.iload 8, 2) := by decide +kernel
theorem dX8_errors_214 : decode cX8_errors 214 = .ok (.goto 4, 3) := by decide +kernel
theorem dX8_errors_217 : decode cX8_errors 217 = .ok (.iconst 0, 1) := by decide +kernel
theorem dX8_errors_218 : decode cX8_errors 218 = .ok (.iadd, 1) := by decide +kernel
theorem dX8_errors_219 : decode cX8_errors 219 = .ok (.istore 5, 2) := by decide +kernel
theorem dX8_errors_221 : decode cX8_errors 221 = .ok (.iinc 7 1, 3) := by decide +kernel
theorem dX8_errors_224 : decode cX8_errors 224 = .ok (.goto (-142), 3) := by decide +kernel
theorem dX8_errors_227 : decode cX8_errors 227 = .ok (.iload 5, 2) := by decide +kernel
theorem dX8_errors_229 : decode cX8_errors 229 = .ok (.iload 6, 2) := by decide +kernel
theorem dX8_errors_231 : decode cX8_errors 231 = .ok (.iload 4, 2) := by decide +kernel
theorem dX8_errors_233 : decode cX8_errors 233 = .ok (.invokestatic 219, 3) := by decide +kernel
theorem dX8_errors_236 : decode cX8_errors 236 = .ok (.ireturn, 1) := by decide +kernel
theorem dX8_griefs_0 : decode cX8_griefs 0 = .ok (.iconst 0, 1) := by decide +kernel
theorem dX8_griefs_1 : decode cX8_griefs 1 = .ok (.istore_n 1, 1) := by decide +kernel
theorem dX8_griefs_2 : decode cX8_griefs 2 = .ok (.iconst 0, 1) := by decide +kernel
theorem dX8_griefs_3 : decode cX8_griefs 3 = .ok (.istore_n 2, 1) := by decide +kernel
theorem dX8_griefs_4 : decode cX8_griefs 4 = .ok (.iload_n 2, 1) := by decide +kernel
theorem dX8_griefs_5 : decode cX8_griefs 5 = .ok (.aload_n 0, 1) := by decide +kernel
theorem dX8_griefs_6 : decode cX8_griefs 6 = .ok (.iconst 2, 1) := by decide +kernel
theorem dX8_griefs_7 : decode cX8_griefs 7 = .ok (.iaload, 1) := by decide +kernel
theorem dX8_griefs_8 : decode cX8_griefs 8 = .ok (.if_icmp .ge 18, 3) := by decide +kernel
theorem dX8_griefs_11 : decode cX8_griefs 11 = .ok (.iload_n 1, 1) := by decide +kernel
theorem dX8_griefs_12 : decode cX8_griefs 12 = .ok (.aload_n 0, 1) := by decide +kernel
theorem dX8_griefs_13 : decode cX8_griefs 13 = .ok (.bipush 11, 2) := by decide +kernel
theorem dX8_griefs_15 : decode cX8_griefs 15 = .ok (.iload_n 2, 1) := by decide +kernel
theorem dX8_griefs_16 : decode cX8_griefs 16 = .ok (.iadd, 1) := by decide +kernel
theorem dX8_griefs_17 : decode cX8_griefs 17 = .ok (.iaload, 1) := by decide +kernel
theorem dX8_griefs_18 : decode cX8_griefs 18 = .ok (.iadd, 1) := by decide +kernel
theorem dX8_griefs_19 : decode cX8_griefs 19 = .ok (.istore_n 1, 1) := by decide +kernel
theorem dX8_griefs_20 : decode cX8_griefs 20 = .ok (.iinc 2 1, 3) := by decide +kernel
theorem dX8_griefs_23 : decode cX8_griefs 23 = .ok (.goto (-19), 3) := by decide +kernel
theorem dX8_griefs_26 : decode cX8_griefs 26 = .ok (.iload_n 1, 1) := by decide +kernel
theorem dX8_griefs_27 : decode cX8_griefs 27 = .ok (.ireturn, 1) := by decide +kernel
set_option maxRecDepth 20000 in
theorem ggX8_decades_X8_in : GoodIn wsX8_decades wsX8_in := goodIn_r _ [10] (by decide +kernel) (by decide +kernel)
set_option maxRecDepth 20000 in
theorem gX8_decades_X8_in : GoodIn wsX8_decades (va_wsS RX8 60 yX8_in wsX8_in) := goodIn_app (goodIn_of _ (by decide +kernel)) ggX8_decades_X8_in
set_option maxRecDepth 20000 in
theorem ggX8_decades_X8_isThere : GoodIn wsX8_decades wsX8_isThere := goodIn_r _ [14, 15, 47, 48, 49, 50, 51, 52, 53, 54, 55, 56, 57, 58, 59, 60, 61, 62, 63, 64, 65, 66, 67, 68] (by decide +kernel) (by decide +kernel)
set_option maxRecDepth 20000 in
theorem gX8_decades_X8_isThere : GoodIn wsX8_decades (wsV RX8 154 RX8 yX8_isThere wsX8_isThere) := goodIn_app (goodIn_of _ (by decide +kernel)) ggX8_decades_X8_isThere
set_option maxRecDepth 20000 in
theorem ggX8_decades_X8_begin : GoodIn wsX8_decades wsX8_begin := goodIn_r _ [19, 15, 4, 20, 21, 9, 22, 47, 48, 49, 50, 51, 52, 53, 54, 55, 56, 57, 58, 59, 60, 61, 62, 63, 64, 65, 66, 67, 68] (by decide +kernel) (by decide +kernel)
set_option maxRecDepth 20000 in
theorem gX8_decades_X8_begin : GoodIn wsX8_decades (wsV RX8 157 RX8 yX8_begin wsX8_begin) := goodIn_app (goodIn_of _ (by decide +kernel)) ggX8_decades_X8_begin
set_option maxRecDepth 20000 in
theorem ggX8_decades_X8_hears : GoodIn wsX8_decades wsX8_hears := goodIn_r _ [25, 26, 27, 9, 28, 29, 30, 31, 32, 33, 34, 35, 36, 37, 38, 39, 40, 41, 42, 43] (by decide +kernel) (by decide +kernel)
set_option maxRecDepth 20000 in
theorem gX8_decades_X8_hears : GoodIn wsX8_decades (va_wsS RX8 143 yX8_hears wsX8_hears) := goodIn_app (goodIn_of _ (by decide +kernel)) ggX8_decades_X8_hears
set_option maxRecDepth 20000 in
theorem ggX8_decades_X8_griefs : GoodIn wsX8_decades wsX8_griefs := goodIn_r _ [46] (by decide +kernel) (by decide +kernel)
set_option maxRecDepth 20000 in
theorem gX8_decades_X8_griefs : GoodIn wsX8_decades (va_wsS RX8 231 yX8_griefs wsX8_griefs) := goodIn_app (goodIn_of _ (by decide +kernel)) ggX8_decades_X8_griefs
theorem dX8_decades_0 : decode cX8_decades 0 = .ok (.iload_n 1, 1) := by decide +kernel
theorem dX8_decades_1 : decode cX8_decades 1 = .ok (.iconst 0, 1) := by decide +kernel
theorem dX8_decades_2 : decode cX8_decades 2 = .ok (.bipush 60, 2) := by decide +kernel
theorem dX8_decades_4 : decode cX8_decades 4 = .ok (.invokestatic 60, 3) := by decide +kernel
theorem dX8_decades_7 : decode cX8_decades 7 = .ok (.ifCond .eq 22, 3) := by decide +kernel
theorem dX8_decades_10 : decode cX8_decades 10 = .ok (.iload_n 2, 1) := by decide +kernel
theorem dX8_decades_11 : decode cX8_decades 11 = .ok (.iconst 1, 1) := by decide +kernel
theorem dX8_decades_12 : decode cX8_decades 12 = .ok (.ldc 222, 2) := by decide +kernel
theorem dX8_decades_14 : decode cX8_decades 14 = .ok (.invokestatic 60, 3) := by decide +kernel
theorem dX8_decades_17 : decode cX8_decades 17 = .ok (.ifCond .eq 12, 3) := by decide +kernel
theorem dX8_decades_20 : decode cX8_decades 20 = .ok (.iload_n 3, 1) := by decide +kernel
theorem dX8_decades_21 : decode cX8_decades 21 = .ok (.iconst 0, 1) := by decide +kernel
theorem dX8_decades_22 : decode cX8_decades 22 = .ok (.iconst 1, 1) := by decide +kernel
theorem dX8_decades_23 : decode cX8_decades 23 = .ok (.invokestatic 60, 3) := by decide +kernel
theorem dX8_decades_26 : decode cX8_decades 26 = .ok (.ifCond .ne 5, 3) := by decide +kernel
theorem dX8_decades_29 : decode cX8_decades 29 = .ok (.iconst (-1), 1) := by decide +kernel
theorem dX8_decades_30 : decode cX8_decades 30 = .ok (.ireturn, 1) := by decide +kernel
theorem dX8_decades_31 : decode cX8_decades 31 = .ok (.aload_n 0, 1) := by decide +kernel
theorem dX8_decades_32 : decode cX8_decades 32 = .ok (.invokevirtual 154, 3) := by decide +kernel
theorem dX8_decades_35 : decode cX8_decades 35 = .ok (.ifCond .ne 6, 3) := by decide +kernel
theorem dX8_decades_38 : decode cX8_decades 38 = .ok (.bipush (-2), 2) := by decide +kernel
theorem dX8_decades_40 : decode cX8_decades 40 = .ok (.ireturn, 1) := by decide +kernel
theorem dX8_decades_41 : decode cX8_decades 41 = .ok (.aload_n 0, 1) := by decide +kernel
theorem dX8_decades_42 : decode cX8_decades 42 = .ok (.invokevirtual 157, 3) := by decide +kernel
theorem dX8_decades_45 : decode cX8_decades 45 = .ok (.iload_n 2, 1) := by decide +kernel
theorem dX8_decades_46 : decode cX8_decades 46 = .ok (.i2l, 1) := by decide +kernel
theorem dX8_decades_47 : decode cX8_decades 47 = .ok (.lstore 4, 2) := by decide +kernel
theorem dX8_decades_49 : decode cX8_decades 49 = .ok (.iconst 0, 1) := by decide +kernel
theorem dX8_decades_50 : decode cX8_decades 50 = .ok (.istore 6, 2) := by decide +kernel
theorem dX8_decades_52 : decode cX8_decades 52 = .ok (.iload 6, 2) := by decide +kernel
theorem dX8_decades_54 : decode cX8_decades 54 = .ok (.iload_n 1, 1) := by decide +kernel
theorem dX8_decades_55 : decode cX8_decades 55 = .ok (.if_icmp .ge 122, 3) := by decide +kernel
theorem dX8_decades_58 : decode cX8_decades 58 = .ok (.lload 4, 2) := by decide +kernel
theorem dX8_decades_60 : decode cX8_decades 60 = .ok (.ldc2_w 223, 3) := by decide +kernel
theorem dX8_decades_63 : decode cX8_decades 63 = .ok (.lmul, 1) := by decide +kernel
theorem dX8_decades_64 : decode cX8_decades 64 = .ok (.ldc2_w 225, 3) := by decide +kernel
theorem dX8_decades_67 : decode cX8_decades 67 = .ok (.lrem, 1) := by decide +kernel
theorem dX8_decades_68 : decode cX8_decades 68 = .ok (.lstore 4, 2) := by decide +kernel
theorem dX8_decades_70 : decode cX8_decades 70 = .ok (.aload_n 0, 1) := by decide +kernel
theorem dX8_decades_71 : decode cX8_decades 71 = .ok (.getfield 29, 3) := by decide +kernel
theorem dX8_decades_74 : decode cX8_decades 74 = .ok (.iconst 0, 1) := by decide +kernel
theorem dX8_decades_75 : decode cX8_decades 75 = .ok (.aload_n 0, 1) := by decide +kernel
theorem dX8_decades_76 : decode cX8_decades 76 = .ok (.getfield 29, 3) := by decide +kernel
theorem dX8_decades_79 : decode cX8_decades 79 = .ok (.iconst 0, 1) := by decide +kernel
theorem dX8_decades_80 : decode cX8_decades 80 = .ok (.iaload, 1) := by decide +kernel
theorem dX8_decades_81 : decode cX8_decades 81 = .ok (.aload_n 0, 1) := by decide +kernel
theorem dX8_decades_82 : decode cX8_decades 82 = .ok (.getfield 29, 3) := by decide +kernel
theorem dX8_decades_85 : decode cX8_decades 85 = .ok (.iconst 4, 1) := by decide +kernel
theorem dX8_decades_86 : decode cX8_decades 86 = .ok (.iaload, 1) := by decide +kernel
theorem dX8_decades_87 : decode cX8_decades 87 = .ok (.if_icmp .ne 7, 3) := by decide +kernel
theorem dX8_decades_90 : decode cX8_decades 90 = .ok (.iconst 0, 1) := by decide +kernel
theorem dX8_decades_91 : decode cX8_decades 91 = .ok (.goto 9, 3) := by decide +kernel
theorem dX8_decades_94 : decode cX8_decades 94 = .ok (.aload_n 0, 1) := by decide +kernel
theorem dX8_decades_95 : decode cX8_decades 95 = .ok (.getfield 29, 3) := by decide +kernel
theorem dX8_decades_98 : decode cX8_decades 98 = .ok (.iconst 0, 1) := by decide +kernel
theorem dX8_decades_99 : decode cX8_decades 99 = .ok (.iaload, 1) := by decide +kernel
theorem dX8_decades_100 : decode cX8_decades 100 = .ok (.iastore, 1) := by decide +kernel
theorem dX8_decades_101 : decode cX8_decades 101 = .ok (.aload_n 0, 1) := by decide +kernel
theorem dX8_decades_102 : decode cX8_decades 102 = .ok (.getfield 29, 3) := by decide +kernel
theorem dX8_decades_105 : decode cX8_decades 105 = .ok (.iconst 0, 1) := by decide +kernel
theorem dX8_decades_106 : decode cX8_decades 106 = .ok (.iaload, 1) := by decide +kernel
theorem dX8_decades_107 : decode cX8_decades 107 = .ok (.istore 7, 2) := by decide +kernel
theorem dX8_decades_109 : decode cX8_decades 109 = .ok (.lload 4, 2) := by decide +kernel
theorem dX8_decades_111 : decode cX8_decades 111 = .ok (.ldc2_w 227, 3) := by decide +kernel
theorem dX8_decades_114 : decode cX8_decades 114 = .ok (.ldiv, 1) := by decide +kernel
theorem dX8_decades_115 : decode cX8_decades 115 = .ok (.ldc2_w 229, 3) := by decide +kernel
theorem dX8_decades_118 : decode cX8_decades 118 = .ok (.lrem, 1) := by decide +kernel
theorem dX8_decades_119 : decode cX8_decades 119 = .ok (.lstore 8, 2) := by decide +kernel
theorem dX8_decades_121 : decode cX8_decades 121 = .ok (.aload_n 0, 1) := by decide +kernel
theorem dX8_decades_122 : decode cX8_decades 122 = .ok (.getfield 29, 3) := by decide +kernel
theorem dX8_decades_125 : decode cX8_decades 125 = .ok (.lload 8, 2) := by decide +kernel
theorem dX8_decades_127 : decode cX8_decades 127 = .ok (.lconst 0, 1) := by decide +kernel
theorem dX8_decades_128 : decode cX8_decades 128 = .ok (.lcmp, 1) := by decide +kernel
theorem dX8_decades_129 : decode cX8_decades 129 = .ok (.ifCond .ne 16, 3) := by decide +kernel
theorem dX8_decades_132 : decode cX8_decades 132 = .ok (.aload_n 0, 1) := by decide +kernel
theorem dX8_decades_133 : decode cX8_decades 133 = .ok (.getfield 29, 3) := by decide +kernel
theorem dX8_decades_136 : decode cX8_decades 136 = .ok (.bipush 35, 2) := by decide +kernel
theorem dX8_decades_138 : decode cX8_decades 138 = .ok (.iload 7, 2) := by decide +kernel
theorem dX8_decades_140 : decode cX8_decades 140 = .ok (.iadd, 1) := by decide +kernel
theorem dX8_decades_141 : decode cX8_decades 141 = .ok (.iaload, 1) := by decide +kernel
theorem dX8_decades_142 : decode cX8_decades 142 = .ok (.goto 25, 3) := by decide +kernel
theorem dX8_decades_145 : decode cX8_decades 145 = .ok (.lload 8, 2) := by decide +kernel
theorem dX8_decades_147 : decode cX8_decades 147 = .ok (.lconst 1, 1) := by decide +kernel
theorem dX8_decades_148 : decode cX8_decades 148 = .ok (.lcmp, 1) := by decide +kernel
theorem dX8_decades_149 : decode cX8_decades 149 = .ok (.ifCond .ne 16, 3) := by decide +kernel
theorem dX8_decades_152 : decode cX8_decades 152 = .ok (.aload_n 0, 1) := by decide +kernel
theorem dX8_decades_153 : decode cX8_decades 153 = .ok (.getfield 29, 3) := by decide +kernel
theorem dX8_decades_156 : decode cX8_decades 156 = .ok (.bipush 47, 2) := by decide +kernel
theorem dX8_decades_158 : decode cX8_decades 158 = .ok (.iload 7, 2) := by decide +kernel
theorem dX8_decades_160 : decode cX8_decades 160 = .ok (.iadd, 1) := by decide +kernel
theorem dX8_decades_161 : decode cX8_decades 161 = .ok (.iaload, 1) := by decide +kernel
theorem dX8_decades_162 : decode cX8_decades 162 = .ok (.goto 5, 3) := by decide +kernel
theorem dX8_decades_165 : decode cX8_decades 165 = .ok (.bipush (-4), 2) := by decide +kernel
theorem dX8_decades_167 : decode cX8_decades 167 = .ok (.invokestatic 143, 3) := by decide +kernel
theorem dX8_decades_170 : decode cX8_decades 170 = .ok (.pop, 1) := by decide +kernel
theorem dX8_decades_171 : decode cX8_decades 171 = .ok (.iinc 6 1, 3) := by decide +kernel
theorem dX8_decades_174 : decode cX8_decades 174 = .ok (.goto (-122), 3) := by decide +kernel
theorem dX8_decades_177 : decode cX8_decades 177 = .ok (.iload_n 3, 1) := by decide +kernel
theorem dX8_decades_178 : decode cX8_decades 178 = .ok (.ifCond .ne 13, 3) := by decide +kernel
theorem dX8_decades_181 : decode cX8_decades 181 = .ok (.aload_n 0, 1) := by decide +kernel
theorem dX8_decades_182 : decode cX8_decades 182 = .ok (.getfield 29, 3) := by decide +kernel
theorem dX8_decades_185 : decode cX8_decades 185 = .ok (.invokestatic 231, 3) := by decide +kernel
theorem dX8_decades_188 : decode cX8_decades 188 = .ok (.goto 9, 3) := by decide +kernel
theorem dX8_decades_191 : decode cX8_decades 191 = .ok (.aload_n 0, 1) := by decide +kernel
theorem dX8_decades_192 : decode cX8_decades 192 = .ok (.getfield 29, 3) := by decide +kernel
theorem dX8_decades_195 : decode cX8_decades 195 = .ok (.iconst 1, 1) := by decide +kernel
theorem dX8_decades_196 : decode cX8_decades 196 = .ok (.iaload, 1) := by decide +kernel
theorem dX8_decades_197 : decode cX8_decades 197 = .ok (.ireturn, 1) := by decide +kernel
set_option maxRecDepth 20000 in
theorem ggX8_isSheet_X8_in : GoodIn wsX8_isSheet wsX8_in := goodIn_r _ [4] (by decide +kernel) (by decide +kernel)
set_option maxRecDepth 20000 in
theorem gX8_isSheet_X8_in : GoodIn wsX8_isSheet (va_wsS RX8 60 yX8_in wsX8_in) := goodIn_app (goodIn_of _ (by decide +kernel)) ggX8_isSheet_X8_in
theorem dX8_isSheet_0 : decode cX8_isSheet 0 = .ok (.iload_n 0, 1) := by decide +kernel
theorem dX8_isSheet_1 : decode cX8_isSheet 1 = .ok (.iconst 0, 1) := by decide +kernel
theorem dX8_isSheet_2 : decode cX8_isSheet 2 = .ok (.iconst 3, 1) := by decide +kernel
theorem dX8_isSheet_3 : decode cX8_isSheet 3 = .ok (.invokestatic 60, 3) := by decide +kernel
theorem dX8_isSheet_6 : decode cX8_isSheet 6 = .ok (.ireturn, 1) := by decide +kernel
theorem dX8_isPart_0 : decode cX8_isPart 0 = .ok (.iload_n 1, 1) := by decide +kernel
theorem dX8_isPart_1 : decode cX8_isPart 1 = .ok (.ifCond .lt 23, 3) := by decide +kernel
theorem dX8_isPart_4 : decode cX8_isPart 4 = .ok (.iload_n 0, 1) := by decide +kernel
theorem dX8_isPart_5 : decode cX8_isPart 5 = .ok (.ifCond .lt 19, 3) := by decide +kernel
theorem dX8_isPart_8 : decode cX8_isPart 8 = .ok (.iload_n 1, 1) := by decide +kernel
theorem dX8_isPart_9 : decode cX8_isPart 9 = .ok (.iload_n 2, 1) := by decide +kernel
theorem dX8_isPart_10 : decode cX8_isPart 10 = .ok (.if_icmp .gt 14, 3) := by decide +kernel
theorem dX8_isPart_13 : decode cX8_isPart 13 = .ok (.iload_n 0, 1) := by decide +kernel
theorem dX8_isPart_14 : decode cX8_isPart 14 = .ok (.iload_n 2, 1) := by decide +kernel
theorem dX8_isPart_15 : decode cX8_isPart 15 = .ok (.iload_n 1, 1) := by decide +kernel
theorem dX8_isPart_16 : decode cX8_isPart 16 = .ok (.isub, 1) := by decide +kernel
theorem dX8_isPart_17 : decode cX8_isPart 17 = .ok (.if_icmp .gt 7, 3) := by decide +kernel
theorem dX8_isPart_20 : decode cX8_isPart 20 = .ok (.iconst 1, 1) := by decide +kernel
theorem dX8_isPart_21 : decode cX8_isPart 21 = .ok (.goto 4, 3) := by decide +kernel
theorem dX8_isPart_24 : decode cX8_isPart 24 = .ok (.iconst 0, 1) := by decide +kernel
theorem dX8_isPart_25 : decode cX8_isPart 25 = .ok (.ireturn, 1) := by decide +kernel
set_option maxRecDepth 20000 in
theorem ggX8_wrong_X8_isPart : GoodIn wsX8_wrong wsX8_isPart := goodIn_r _ [6] (by decide +kernel) (by decide +kernel)
set_option maxRecDepth 20000 in
theorem gX8_wrong_X8_isPart : GoodIn wsX8_wrong (va_wsS RX8 235 yX8_isPart wsX8_isPart) := goodIn_app (goodIn_of _ (by decide +kernel)) ggX8_wrong_X8_isPart
theorem dX8_wrong_0 : decode cX8_wrong 0 = .ok (.aload_n 0, 1) := by decide +kernel
theorem dX8_wrong_1 : decode cX8_wrong 1 = .ok (.getfield 7, 3) := by decide +kernel
theorem dX8_wrong_4 : decode cX8_wrong 4 = .ok (.iload_n 1, 1) := by decide +kernel
theorem dX8_wrong_5 : decode cX8_wrong 5 = .ok (.iaload, 1) := by decide +kernel
theorem dX8_wrong_6 : decode cX8_wrong 6 = .ok (.ifCond .ge 8, 3) := by decide +kernel
theorem dX8_wrong_9 : decode cX8_wrong 9 = .ok (.bipush (-11), 2) := by decide +kernel
theorem dX8_wrong_11 : decode cX8_wrong 11 = .ok (.goto 39, 3) := by decide +kernel
theorem dX8_wrong_14 : decode cX8_wrong 14 = .ok (.aload_n 0, 1) := by decide +kernel
theorem dX8_wrong_15 : decode cX8_wrong 15 = .ok (.getfield 7, 3) := by decide +kernel
theorem dX8_wrong_18 : decode cX8_wrong 18 = .ok (.iload_n 1, 1) := by decide +kernel
theorem dX8_wrong_19 : decode cX8_wrong 19 = .ok (.iaload, 1) := by decide +kernel
theorem dX8_wrong_20 : decode cX8_wrong 20 = .ok (.iload_n 2, 1) := by decide +kernel
theorem dX8_wrong_21 : decode cX8_wrong 21 = .ok (.if_icmp .eq 8, 3) := by decide +kernel
theorem dX8_wrong_24 : decode cX8_wrong 24 = .ok (.bipush (-12), 2) := by decide +kernel
theorem dX8_wrong_26 : decode cX8_wrong 26 = .ok (.goto 24, 3) := by decide +kernel
theorem dX8_wrong_29 : decode cX8_wrong 29 = .ok (.iload_n 3, 1) := by decide +kernel
theorem dX8_wrong_30 : decode cX8_wrong 30 = .ok (.iload 4, 2) := by decide +kernel
theorem dX8_wrong_32 : decode cX8_wrong 32 = .ok (.aload_n 0, 1) := by decide +kernel
theorem dX8_wrong_33 : decode cX8_wrong 33 = .ok (.getfield 13, 3) := by decide +kernel
theorem dX8_wrong_36 : decode cX8_wrong 36 = .ok (.iload_n 1, 1) := by decide +kernel
theorem dX8_wrong_37 : decode cX8_wrong 37 = .ok (.iaload, 1) := by decide +kernel
theorem dX8_wrong_38 : decode cX8_wrong 38 = .ok (.invokestatic 235, 3) := by decide +kernel
theorem dX8_wrong_41 : decode cX8_wrong 41 = .ok (.ifCond .eq 7, 3) := by decide +kernel
theorem dX8_wrong_44 : decode cX8_wrong 44 = .ok (.iconst 0, 1) := by decide +kernel
theorem dX8_wrong_45 : decode cX8_wrong 45 = .ok (.goto 5, 3) := by decide +kernel
theorem dX8_wrong_48 : decode cX8_wrong 48 = .ok (.bipush (-13), 2) := by decide +kernel
theorem dX8_wrong_50 : decode cX8_wrong 50 = .ok (.ireturn, 1) := by decide +kernel
set_option maxRecDepth 20000 in
theorem ggX8_sheet_X8_isSheet : GoodIn wsX8_sheet wsX8_isSheet := goodIn_r _ [7, 8, 9, 6, 10] (by decide +kernel) (by decide +kernel)
set_option maxRecDepth 20000 in
theorem gX8_sheet_X8_isSheet : GoodIn wsX8_sheet (va_wsS RX8 238 yX8_isSheet wsX8_isSheet) := goodIn_app (goodIn_of _ (by decide +kernel)) ggX8_sheet_X8_isSheet
set_option maxRecDepth 20000 in
theorem ggX8_sheet_X8_in : GoodIn wsX8_sheet wsX8_in := goodIn_r _ [10] (by decide +kernel) (by decide +kernel)
set_option maxRecDepth 20000 in
theorem gX8_sheet_X8_in : GoodIn wsX8_sheet (va_wsS RX8 60 yX8_in wsX8_in) := goodIn_app (goodIn_of _ (by decide +kernel)) ggX8_sheet_X8_in
theorem dX8_sheet_0 : decode cX8_sheet 0 = .ok (.iload_n 1, 1) := by decide +kernel
theorem dX8_sheet_1 : decode cX8_sheet 1 = .ok (.invokestatic 238, 3) := by decide +kernel
theorem dX8_sheet_4 : decode cX8_sheet 4 = .ok (.ifCond .eq 18, 3) := by decide +kernel
theorem dX8_sheet_7 : decode cX8_sheet 7 = .ok (.iload_n 2, 1) := by decide +kernel
theorem dX8_sheet_8 : decode cX8_sheet 8 = .ok (.iconst 0, 1) := by decide +kernel
theorem dX8_sheet_9 : decode cX8_sheet 9 = .ok (.iconst 3, 1) := by decide +kernel
theorem dX8_sheet_10 : decode cX8_sheet 10 = .ok (.invokestatic 60, 3) := by decide +kernel
theorem dX8_sheet_13 : decode cX8_sheet 13 = .ok (.ifCond .eq 9, 3) := by decide +kernel
theorem dX8_sheet_16 : decode cX8_sheet 16 = .ok (.iload_n 3, 1) := by decide +kernel
theorem dX8_sheet_17 : decode cX8_sheet 17 = .ok (.bipush 24, 2) := by decide +kernel
theorem dX8_sheet_19 : decode cX8_sheet 19 = .ok (.if_icmp .le 5, 3) := by decide +kernel
theorem dX8_sheet_22 : decode cX8_sheet 22 = .ok (.iconst (-1), 1) := by decide +kernel
theorem dX8_sheet_23 : decode cX8_sheet 23 = .ok (.ireturn, 1) := by decide +kernel
theorem dX8_sheet_24 : decode cX8_sheet 24 = .ok (.iload_n 3, 1) := by decide +kernel
theorem dX8_sheet_25 : decode cX8_sheet 25 = .ok (.ifCond .ge 6, 3) := by decide +kernel
theorem dX8_sheet_28 : decode cX8_sheet 28 = .ok (.bipush (-14), 2) := by decide +kernel
theorem dX8_sheet_30 : decode cX8_sheet 30 = .ok (.ireturn, 1) := by decide +kernel
theorem dX8_sheet_31 : decode cX8_sheet 31 = .ok (.aload_n 0, 1) := by decide +kernel
theorem dX8_sheet_32 : decode cX8_sheet 32 = .ok (.getfield 7, 3) := by decide +kernel
theorem dX8_sheet_35 : decode cX8_sheet 35 = .ok (.iload_n 1, 1) := by decide +kernel
theorem dX8_sheet_36 : decode cX8_sheet 36 = .ok (.iload_n 2, 1) := by decide +kernel
theorem dX8_sheet_37 : decode cX8_sheet 37 = .ok (.iastore, 1) := by decide +kernel
theorem dX8_sheet_38 : decode cX8_sheet 38 = .ok (.aload_n 0, 1) := by decide +kernel
theorem dX8_sheet_39 : decode cX8_sheet 39 = .ok (.getfield 13, 3) := by decide +kernel
theorem dX8_sheet_42 : decode cX8_sheet 42 = .ok (.iload_n 1, 1) := by decide +kernel
theorem dX8_sheet_43 : decode cX8_sheet 43 = .ok (.iload_n 3, 1) := by decide +kernel
theorem dX8_sheet_44 : decode cX8_sheet 44 = .ok (.iastore, 1) := by decide +kernel
theorem dX8_sheet_45 : decode cX8_sheet 45 = .ok (.iconst 0, 1) := by decide +kernel
theorem dX8_sheet_46 : decode cX8_sheet 46 = .ok (.istore 4, 2) := by decide +kernel
theorem dX8_sheet_48 : decode cX8_sheet 48 = .ok (.iload 4, 2) := by decide +kernel
theorem dX8_sheet_50 : decode cX8_sheet 50 = .ok (.bipush 24, 2) := by decide +kernel
theorem dX8_sheet_52 : decode cX8_sheet 52 = .ok (.if_icmp .ge 22, 3) := by decide +kernel
theorem dX8_sheet_55 : decode cX8_sheet 55 = .ok (.aload_n 0, 1) := by decide +kernel
theorem dX8_sheet_56 : decode cX8_sheet 56 = .ok (.getfield 16, 3) := by decide +kernel
theorem dX8_sheet_59 : decode cX8_sheet 59 = .ok (.bipush 24, 2) := by decide +kernel
theorem dX8_sheet_61 : decode cX8_sheet 61 = .ok (.iload_n 1, 1) := by decide +kernel
theorem dX8_sheet_62 : decode cX8_sheet 62 = .ok (.imul, 1) := by decide +kernel
theorem dX8_sheet_63 : decode cX8_sheet 63 = .ok (.iload 4, 2) := by decide +kernel
theorem dX8_sheet_65 : decode cX8_sheet 65 = .ok (.iadd, 1) := by decide +kernel
theorem dX8_sheet_66 : decode cX8_sheet 66 = .ok (.lconst 0, 1) := by decide +kernel
theorem dX8_sheet_67 : decode cX8_sheet 67 = .ok (.lastore, 1) := by decide +kernel
theorem dX8_sheet_68 : decode cX8_sheet 68 = .ok (.iinc 4 1, 3) := by decide +kernel
theorem dX8_sheet_71 : decode cX8_sheet 71 = .ok (.goto (-23), 3) := by decide +kernel
theorem dX8_sheet_74 : decode cX8_sheet 74 = .ok (.iload_n 3, 1) := by decide +kernel
theorem dX8_sheet_75 : decode cX8_sheet 75 = .ok (.ireturn, 1) := by decide +kernel
set_option maxRecDepth 20000 in
theorem ggX8_drop_X8_isSheet : GoodIn wsX8_drop wsX8_isSheet := goodIn_r _ [6, 7, 8, 5, 9] (by decide +kernel) (by decide +kernel)
set_option maxRecDepth 20000 in
theorem gX8_drop_X8_isSheet : GoodIn wsX8_drop (va_wsS RX8 238 yX8_isSheet wsX8_isSheet) := goodIn_app (goodIn_of _ (by decide +kernel)) ggX8_drop_X8_isSheet
theorem dX8_drop_0 : decode cX8_drop 0 = .ok (.iload_n 1, 1) := by decide +kernel
theorem dX8_drop_1 : decode cX8_drop 1 = .ok (.invokestatic 238, 3) := by decide +kernel
theorem dX8_drop_4 : decode cX8_drop 4 = .ok (.ifCond .ne 5, 3) := by decide +kernel
theorem dX8_drop_7 : decode cX8_drop 7 = .ok (.iconst (-1), 1) := by decide +kernel
theorem dX8_drop_8 : decode cX8_drop 8 = .ok (.ireturn, 1) := by decide +kernel
theorem dX8_drop_9 : decode cX8_drop 9 = .ok (.aload_n 0, 1) := by decide +kernel
theorem dX8_drop_10 : decode cX8_drop 10 = .ok (.getfield 7, 3) := by decide +kernel
theorem dX8_drop_13 : decode cX8_drop 13 = .ok (.iload_n 1, 1) := by decide +kernel
theorem dX8_drop_14 : decode cX8_drop 14 = .ok (.iaload, 1) := by decide +kernel
theorem dX8_drop_15 : decode cX8_drop 15 = .ok (.ifCond .ge 6, 3) := by decide +kernel
theorem dX8_drop_18 : decode cX8_drop 18 = .ok (.bipush (-11), 2) := by decide +kernel
theorem dX8_drop_20 : decode cX8_drop 20 = .ok (.ireturn, 1) := by decide +kernel
theorem dX8_drop_21 : decode cX8_drop 21 = .ok (.aload_n 0, 1) := by decide +kernel
theorem dX8_drop_22 : decode cX8_drop 22 = .ok (.getfield 7, 3) := by decide +kernel
theorem dX8_drop_25 : decode cX8_drop 25 = .ok (.iload_n 1, 1) := by decide +kernel
theorem dX8_drop_26 : decode cX8_drop 26 = .ok (.iconst (-1), 1) := by decide +kernel
theorem dX8_drop_27 : decode cX8_drop 27 = .ok (.iastore, 1) := by decide +kernel
theorem dX8_drop_28 : decode cX8_drop 28 = .ok (.aload_n 0, 1) := by decide +kernel
theorem dX8_drop_29 : decode cX8_drop 29 = .ok (.getfield 13, 3) := by decide +kernel
theorem dX8_drop_32 : decode cX8_drop 32 = .ok (.iload_n 1, 1) := by decide +kernel
theorem dX8_drop_33 : decode cX8_drop 33 = .ok (.iaload, 1) := by decide +kernel
theorem dX8_drop_34 : decode cX8_drop 34 = .ok (.ireturn, 1) := by decide +kernel
set_option maxRecDepth 20000 in
theorem ggX8_item_X8_isSheet : GoodIn wsX8_item wsX8_isSheet := goodIn_r _ [6, 7, 8, 5, 9] (by decide +kernel) (by decide +kernel)
set_option maxRecDepth 20000 in
theorem gX8_item_X8_isSheet : GoodIn wsX8_item (va_wsS RX8 238 yX8_isSheet wsX8_isSheet) := goodIn_app (goodIn_of _ (by decide +kernel)) ggX8_item_X8_isSheet
set_option maxRecDepth 20000 in
theorem ggX8_item_X8_in : GoodIn wsX8_item wsX8_in := goodIn_r _ [9] (by decide +kernel) (by decide +kernel)
set_option maxRecDepth 20000 in
theorem gX8_item_X8_in : GoodIn wsX8_item (va_wsS RX8 60 yX8_in wsX8_in) := goodIn_app (goodIn_of _ (by decide +kernel)) ggX8_item_X8_in
set_option maxRecDepth 20000 in
theorem ggX8_item_X8_wrong : GoodIn wsX8_item wsX8_wrong := goodIn_r _ [13, 14, 15, 16, 17, 5, 18, 19, 20, 21, 22, 23, 24, 25, 26, 27, 28, 29, 30, 31, 32, 33, 34, 35, 36, 37, 38, 39, 40] (by decide +kernel) (by decide +kernel)
set_option maxRecDepth 20000 in
theorem gX8_item_X8_wrong : GoodIn wsX8_item (wsV RX8 243 RX8 yX8_wrong wsX8_wrong) := goodIn_app (goodIn_of _ (by decide +kernel)) ggX8_item_X8_wrong
theorem dX8_item_0 : decode cX8_item 0 = .ok (.iload_n 1, 1) := by decide +kernel
theorem dX8_item_1 : decode cX8_item 1 = .ok (.invokestatic 238, 3) := by decide +kernel
theorem dX8_item_4 : decode cX8_item 4 = .ok (.ifCond .eq 12, 3) := by decide +kernel
theorem dX8_item_7 : decode cX8_item 7 = .ok (.iload_n 2, 1) := by decide +kernel
theorem dX8_item_8 : decode cX8_item 8 = .ok (.iconst 0, 1) := by decide +kernel
theorem dX8_item_9 : decode cX8_item 9 = .ok (.iconst 3, 1) := by decide +kernel
theorem dX8_item_10 : decode cX8_item 10 = .ok (.invokestatic 60, 3) := by decide +kernel
theorem dX8_item_13 : decode cX8_item 13 = .ok (.ifCond .ne 7, 3) := by decide +kernel
theorem dX8_item_16 : decode cX8_item 16 = .ok (.ldc2_w 241, 3) := by decide +kernel
theorem dX8_item_19 : decode cX8_item 19 = .ok (.lreturn, 1) := by decide +kernel
theorem dX8_item_20 : decode cX8_item 20 = .ok (.aload_n 0, 1) := by decide +kernel
theorem dX8_item_21 : decode cX8_item 21 = .ok (.iload_n 1, 1) := by decide +kernel
theorem dX8_item_22 : decode cX8_item 22 = .ok (.iload_n 2, 1) := by decide +kernel
theorem dX8_item_23 : decode cX8_item 23 = .ok (.iload_n 3, 1) := by decide +kernel
theorem dX8_item_24 : decode cX8_item 24 = .ok (.iconst 1, 1) := by decide +kernel
theorem dX8_item_25 : decode cX8_item 25 = .ok (.invokevirtual 243, 3) := by decide +kernel
theorem dX8_item_28 : decode cX8_item 28 = .ok (.istore 6, 2) := by decide +kernel
theorem dX8_item_30 : decode cX8_item 30 = .ok (.iload 6, 2) := by decide +kernel
theorem dX8_item_32 : decode cX8_item 32 = .ok (.ifCond .eq 7, 3) := by decide +kernel
theorem dX8_item_35 : decode cX8_item 35 = .ok (.iload 6, 2) := by decide +kernel
theorem dX8_item_37 : decode cX8_item 37 = .ok (.i2l, 1) := by decide +kernel
theorem dX8_item_38 : decode cX8_item 38 = .ok (.lreturn, 1) := by decide +kernel
theorem dX8_item_39 : decode cX8_item 39 = .ok (.aload_n 0, 1) := by decide +kernel
theorem dX8_item_40 : decode cX8_item 40 = .ok (.getfield 16, 3) := by decide +kernel
theorem dX8_item_43 : decode cX8_item 43 = .ok (.bipush 24, 2) := by decide +kernel
theorem dX8_item_45 : decode cX8_item 45 = .ok (.iload_n 1, 1) := by decide +kernel
theorem dX8_item_46 : decode cX8_item 46 = .ok (.imul, 1) := by decide +kernel
theorem dX8_item_47 : decode cX8_item 47 = .ok (.iload_n 3, 1) := by decide +kernel
theorem dX8_item_48 : decode cX8_item 48 = .ok (.iadd, 1) := by decide +kernel
theorem dX8_item_49 : decode cX8_item 49 = .ok (.iload_n 2, 1) := by decide +kernel
theorem dX8_item_50 : decode cX8_item 50 = .ok (.ifCond .ne 11, 3) := by decide +kernel
theorem dX8_item_53 : decode cX8_item 53 = .ok (.lload 4, 2) := by decide +kernel
theorem dX8_item_55 : decode cX8_item 55 = .ok (.l2i, 1) := by decide +kernel
theorem dX8_item_56 : decode cX8_item 56 = .ok (.i2b, 1) := by decide +kernel
theorem dX8_item_57 : decode cX8_item 57 = .ok (.i2l, 1) := by decide +kernel
theorem dX8_item_58 : decode cX8_item 58 = .ok (.goto 30, 3) := by decide +kernel
theorem dX8_item_61 : decode cX8_item 61 = .ok (.iload_n 2, 1) := by decide +kernel
theorem dX8_item_62 : decode cX8_item 62 = .ok (.iconst 1, 1) := by decide +kernel
theorem dX8_item_63 : decode cX8_item 63 = .ok (.if_icmp .ne 11, 3) := by decide +kernel
theorem dX8_item_66 : decode cX8_item 66 = .ok (.lload 4, 2) := by decide +kernel
theorem dX8_item_68 : decode cX8_item 68 = .ok (.l2i, 1) := by decide +kernel
theorem dX8_item_69 : decode cX8_item 69 = .ok (.i2s, 1) := by decide +kernel
theorem dX8_item_70 : decode cX8_item 70 = .ok (.i2l, 1) := by decide +kernel
theorem dX8_item_71 : decode cX8_item 71 = .ok (.goto 17, 3) := by decide +kernel
theorem dX8_item_74 : decode cX8_item 74 = .ok (.iload_n 2, 1) := by decide +kernel
theorem dX8_item_75 : decode cX8_item 75 = .ok (.iconst 2, 1) := by decide +kernel
theorem dX8_item_76 : decode cX8_item 76 = .ok (.if_icmp .ne 10, 3) := by decide +kernel
theorem dX8_item_79 : decode cX8_item 79 = .ok (.lload 4, 2) := by decide +kernel
theorem dX8_item_81 : decode cX8_item 81 = .ok (.l2i, 1) := by decide +kernel
theorem dX8_item_82 : decode cX8_item 82 = .ok (.i2l, 1) := by decide +kernel
theorem dX8_item_83 : decode cX8_item 83 = .ok (.goto 5, 3) := by decide +kernel
theorem dX8_item_86 : decode cX8_item 86 = .ok (.lload 4, 2) := by decide +kernel
theorem dX8_item_88 : decode cX8_item 88 = .ok (.lastore, 1) := by decide +kernel
theorem dX8_item_89 : decode cX8_item 89 = .ok (.aload_n 0, 1) := by decide +kernel
theorem dX8_item_90 : decode cX8_item 90 = .ok (.getfield 16, 3) := by decide +kernel
theorem dX8_item_93 : decode cX8_item 93 = .ok (.bipush 24, 2) := by decide +kernel
theorem dX8_item_95 : decode cX8_item 95 = .ok (.iload_n 1, 1) := by decide +kernel
theorem dX8_item_96 : decode cX8_item 96 = .ok (.imul, 1) := by decide +kernel
theorem dX8_item_97 : decode cX8_item 97 = .ok (.iload_n 3, 1) := by decide +kernel
theorem dX8_item_98 : decode cX8_item 98 = .ok (.iadd, 1) := by decide +kernel
theorem dX8_item_99 : decode cX8_item 99 = .ok (.laload, 1) := by decide +kernel
theorem dX8_item_100 : decode cX8_item 100 = .ok (.lreturn, 1) := by decide +kernel
set_option maxRecDepth 20000 in
theorem ggX8_copy_X8_isSheet : GoodIn wsX8_copy wsX8_isSheet := goodIn_r _ [7, 8, 9, 6, 10] (by decide +kernel) (by decide +kernel)
set_option maxRecDepth 20000 in
theorem gX8_copy_X8_isSheet : GoodIn wsX8_copy (va_wsS RX8 238 yX8_isSheet wsX8_isSheet) := goodIn_app (goodIn_of _ (by decide +kernel)) ggX8_copy_X8_isSheet
set_option maxRecDepth 20000 in
theorem ggX8_copy_X8_isPart : GoodIn wsX8_copy wsX8_isPart := goodIn_r _ [13] (by decide +kernel) (by decide +kernel)
set_option maxRecDepth 20000 in
theorem gX8_copy_X8_isPart : GoodIn wsX8_copy (va_wsS RX8 235 yX8_isPart wsX8_isPart) := goodIn_app (goodIn_of _ (by decide +kernel)) ggX8_copy_X8_isPart
theorem dX8_copy_0 : decode cX8_copy 0 = .ok (.iload_n 1, 1) := by decide +kernel
theorem dX8_copy_1 : decode cX8_copy 1 = .ok (.invokestatic 238, 3) := by decide +kernel
theorem dX8_copy_4 : decode cX8_copy 4 = .ok (.ifCond .eq 10, 3) := by decide +kernel
theorem dX8_copy_7 : decode cX8_copy 7 = .ok (.iload_n 3, 1) := by decide +kernel
theorem dX8_copy_8 : decode cX8_copy 8 = .ok (.invokestatic 238, 3) := by decide +kernel
theorem dX8_copy_11 : decode cX8_copy 11 = .ok (.ifCond .ne 5, 3) := by decide +kernel
theorem dX8_copy_14 : decode cX8_copy 14 = .ok (.iconst (-1), 1) := by decide +kernel
theorem dX8_copy_15 : decode cX8_copy 15 = .ok (.ireturn, 1) := by decide +kernel
theorem dX8_copy_16 : decode cX8_copy 16 = .ok (.aload_n 0, 1) := by decide +kernel
theorem dX8_copy_17 : decode cX8_copy 17 = .ok (.getfield 7, 3) := by decide +kernel
theorem dX8_copy_20 : decode cX8_copy 20 = .ok (.iload_n 1, 1) := by decide +kernel
theorem dX8_copy_21 : decode cX8_copy 21 = .ok (.iaload, 1) := by decide +kernel
theorem dX8_copy_22 : decode cX8_copy 22 = .ok (.ifCond .lt 12, 3) := by decide +kernel
theorem dX8_copy_25 : decode cX8_copy 25 = .ok (.aload_n 0, 1) := by decide +kernel
theorem dX8_copy_26 : decode cX8_copy 26 = .ok (.getfield 7, 3) := by decide +kernel
theorem dX8_copy_29 : decode cX8_copy 29 = .ok (.iload_n 3, 1) := by decide +kernel
theorem dX8_copy_30 : decode cX8_copy 30 = .ok (.iaload, 1) := by decide +kernel
theorem dX8_copy_31 : decode cX8_copy 31 = .ok (.ifCond .ge 6, 3) := by decide +kernel
theorem dX8_copy_34 : decode cX8_copy 34 = .ok (.bipush (-11), 2) := by decide +kernel
theorem dX8_copy_36 : decode cX8_copy 36 = .ok (.ireturn, 1) := by decide +kernel
theorem dX8_copy_37 : decode cX8_copy 37 = .ok (.aload_n 0, 1) := by decide +kernel
theorem dX8_copy_38 : decode cX8_copy 38 = .ok (.getfield 7, 3) := by decide +kernel
theorem dX8_copy_41 : decode cX8_copy 41 = .ok (.iload_n 1, 1) := by decide +kernel
theorem dX8_copy_42 : decode cX8_copy 42 = .ok (.iaload, 1) := by decide +kernel
theorem dX8_copy_43 : decode cX8_copy 43 = .ok (.aload_n 0, 1) := by decide +kernel
theorem dX8_copy_44 : decode cX8_copy 44 = .ok (.getfield 7, 3) := by decide +kernel
theorem dX8_copy_47 : decode cX8_copy 47 = .ok (.iload_n 3, 1) := by decide +kernel
theorem dX8_copy_48 : decode cX8_copy 48 = .ok (.iaload, 1) := by decide +kernel
theorem dX8_copy_49 : decode cX8_copy 49 = .ok (.if_icmp .eq 6, 3) := by decide +kernel
theorem dX8_copy_52 : decode cX8_copy 52 = .ok (.bipush (-12), 2) := by decide +kernel
theorem dX8_copy_54 : decode cX8_copy 54 = .ok (.ireturn, 1) := by decide +kernel
theorem dX8_copy_55 : decode cX8_copy 55 = .ok (.iload_n 2, 1) := by decide +kernel
theorem dX8_copy_56 : decode cX8_copy 56 = .ok (.iload 5, 2) := by decide +kernel
theorem dX8_copy_58 : decode cX8_copy 58 = .ok (.aload_n 0, 1) := by decide +kernel
theorem dX8_copy_59 : decode cX8_copy 59 = .ok (.getfield 13, 3) := by decide +kernel
theorem dX8_copy_62 : decode cX8_copy 62 = .ok (.iload_n 1, 1) := by decide +kernel
theorem dX8_copy_63 : decode cX8_copy 63 = .ok (.iaload, 1) := by decide +kernel
theorem dX8_copy_64 : decode cX8_copy 64 = .ok (.invokestatic 235, 3) := by decide +kernel
theorem dX8_copy_67 : decode cX8_copy 67 = .ok (.ifCond .eq 19, 3) := by decide +kernel
theorem dX8_copy_70 : decode cX8_copy 70 = .ok (.iload 4, 2) := by decide +kernel
theorem dX8_copy_72 : decode cX8_copy 72 = .ok (.iload 5, 2) := by decide +kernel
theorem dX8_copy_74 : decode cX8_copy 74 = .ok (.aload_n 0, 1) := by decide +kernel
theorem dX8_copy_75 : decode cX8_copy 75 = .ok (.getfield 13, 3) := by decide +kernel
theorem dX8_copy_78 : decode cX8_copy 78 = .ok (.iload_n 3, 1) := by decide +kernel
theorem dX8_copy_79 : decode cX8_copy 79 = .ok (.iaload, 1) := by decide +kernel
theorem dX8_copy_80 : decode cX8_copy 80 = .ok (.invokestatic 235, 3) := by decide +kernel
theorem dX8_copy_83 : decode cX8_copy 83 = .ok (.ifCond .ne 6, 3) := by decide +kernel
theorem dX8_copy_86 : decode cX8_copy 86 = .ok (.bipush (-13), 2) := by decide +kernel
theorem dX8_copy_88 : decode cX8_copy 88 = .ok (.ireturn, 1) := by decide +kernel
theorem dX8_copy_89 : decode cX8_copy 89 = .ok (.iload_n 1, 1) := by decide +kernel
theorem dX8_copy_90 : decode cX8_copy 90 = .ok (.iload_n 3, 1) := by decide +kernel
theorem dX8_copy_91 : decode cX8_copy 91 = .ok (.if_icmp .ne 13, 3) := by decide +kernel
theorem dX8_copy_94 : decode cX8_copy 94 = .ok (.iload 4, 2) := by decide +kernel
theorem dX8_copy_96 : decode cX8_copy 96 = .ok (.iload_n 2, 1) := by decide +kernel
theorem dX8_copy_97 : decode cX8_copy 97 = .ok (.if_icmp .le 7, 3) := by decide +kernel
theorem dX8_copy_100 : decode cX8_copy 100 = .ok (.iconst 1, 1) := by decide +kernel
theorem dX8_copy_101 : decode cX8_copy 101 = .ok (.goto 4, 3) := by decide +kernel
theorem dX8_copy_104 : decode cX8_copy 104 = .ok (.iconst 0, 1) := by decide +kernel
theorem dX8_copy_105 : decode cX8_copy 105 = .ok (.istore 6, 2) := by decide +kernel
theorem dX8_copy_107 : decode cX8_copy 107 = .ok (.iconst 0, 1) := by decide +kernel
theorem dX8_copy_108 : decode cX8_copy 108 = .ok (.istore 7, 2) := by decide +kernel
theorem dX8_copy_110 : decode cX8_copy 110 = .ok (.iload 7, 2) := by decide +kernel
theorem dX8_copy_112 : decode cX8_copy 112 = .ok (.iload 5, 2) := by decide +kernel
theorem dX8_copy_114 : decode cX8_copy 114 = .ok (.if_icmp .ge 57, 3) := by decide +kernel
theorem dX8_copy_117 : decode cX8_copy 117 = .ok (.iload 6, 2) := by decide +kernel
theorem dX8_copy_119 : decode cX8_copy 119 = .ok (.ifCond .eq 13, 3) := by decide +kernel
theorem dX8_copy_122 : decode cX8_copy 122 = .ok (.iload 5, 2) := by decide +kernel
theorem dX8_copy_124 : decode cX8_copy 124 = .ok (.iconst 1, 1) := by decide +kernel
theorem dX8_copy_125 : decode cX8_copy 125 = .ok (.isub, 1) := by decide +kernel
theorem dX8_copy_126 : decode cX8_copy 126 = .ok (.iload 7, 2) := by decide +kernel
theorem dX8_copy_128 : decode cX8_copy 128 = .ok (.isub, 1) := by decide +kernel
theorem dX8_copy_129 : decode cX8_copy 129 = .ok (.goto 5, 3) := by decide +kernel
theorem dX8_copy_132 : decode cX8_copy 132 = .ok (.iload 7, 2) := by decide +kernel
theorem dX8_copy_134 : decode cX8_copy 134 = .ok (.istore 8, 2) := by decide +kernel
theorem dX8_copy_136 : decode cX8_copy 136 = .ok (.aload_n 0, 1) := by decide +kernel
theorem dX8_copy_137 : decode cX8_copy 137 = .ok (.getfield 16, 3) := by decide +kernel
theorem dX8_copy_140 : decode cX8_copy 140 = .ok (.bipush 24, 2) := by decide +kernel
theorem dX8_copy_142 : decode cX8_copy 142 = .ok (.iload_n 3, 1) := by decide +kernel
theorem dX8_copy_143 : decode cX8_copy 143 = .ok (.imul, 1) := by decide +kernel
theorem dX8_copy_144 : decode cX8_copy 144 = .ok (.iload 4, 2) := by decide +kernel
theorem dX8_copy_146 : decode cX8_copy 146 = .ok (.iadd, 1) := by decide +kernel
theorem dX8_copy_147 : decode cX8_copy 147 = .ok (.iload 8, 2) := by decide +kernel
theorem dX8_copy_149 : decode cX8_copy 149 = .ok (.iadd, 1) := by decide +kernel
theorem dX8_copy_150 : decode cX8_copy 150 = .ok (.aload_n 0, 1) := by decide +kernel
theorem dX8_copy_151 : decode cX8_copy 151 = .ok (.getfield 16, 3) := by decide +kernel
theorem dX8_copy_154 : decode cX8_copy 154 = .ok (.bipush 24, 2) := by decide +kernel
theorem dX8_copy_156 : decode cX8_copy 156 = .ok (.iload_n 1, 1) := by decide +kernel
theorem dX8_copy_157 : decode cX8_copy 157 = .ok (.imul, 1) := by decide +kernel
theorem dX8_copy_158 : decode cX8_copy 158 = .ok (.iload_n 2, 1) := by decide +kernel
theorem dX8_copy_159 : decode cX8_copy 159 = .ok (.iadd, 1) := by decide +kernel
theorem dX8_copy_160 : decode cX8_copy 160 = .ok (.iload 8, 2) := by decide +kernel
theorem dX8_copy_162 : decode cX8_copy 162 = .ok (.iadd, 1) := by decide +kernel
theorem dX8_copy_163 : decode cX8_copy 163 = .ok (.laload, 1) := by decide +kernel
theorem dX8_copy_164 : decode cX8_copy 164 = .ok (.lastore, 1) := by decide +kernel
theorem dX8_copy_165 : decode cX8_copy 165 = .ok (.iinc 7 1, 3) := by decide +kernel
theorem dX8_copy_168 : decode cX8_copy 168 = .ok (.goto (-58), 3) := by decide +kernel
theorem dX8_copy_171 : decode cX8_copy 171 = .ok (.iload 5, 2) := by decide +kernel
theorem dX8_copy_173 : decode cX8_copy 173 = .ok (.ireturn, 1) := by decide +kernel
theorem dX8_cutTo_0 : decode cX8_cutTo 0 = .ok (.iload_n 0, 1) := by decide +kernel
theorem dX8_cutTo_1 : decode cX8_cutTo 1 = .ok (.ifCond .ne 10, 3) := by decide +kernel
theorem dX8_cutTo_4 : decode cX8_cutTo 4 = .ok (.lload_n 1, 1) := by decide +kernel
theorem dX8_cutTo_5 : decode cX8_cutTo 5 = .ok (.l2i, 1) := by decide +kernel
theorem dX8_cutTo_6 : decode cX8_cutTo 6 = .ok (.i2b, 1) := by decide +kernel
theorem dX8_cutTo_7 : decode cX8_cutTo 7 = .ok (.i2l, 1) := by decide +kernel
theorem dX8_cutTo_8 : decode cX8_cutTo 8 = .ok (.goto 27, 3) := by decide +kernel
theorem dX8_cutTo_11 : decode cX8_cutTo 11 = .ok (.iload_n 0, 1) := by decide +kernel
theorem dX8_cutTo_12 : decode cX8_cutTo 12 = .ok (.iconst 1, 1) := by decide +kernel
theorem dX8_cutTo_13 : decode cX8_cutTo 13 = .ok (.if_icmp .ne 10, 3) := by decide +kernel
theorem dX8_cutTo_16 : decode cX8_cutTo 16 = .ok (.lload_n 1, 1) := by decide +kernel
theorem dX8_cutTo_17 : decode cX8_cutTo 17 = .ok (.l2i, 1) := by decide +kernel
theorem dX8_cutTo_18 : decode cX8_cutTo 18 = .ok (.i2s, 1) := by decide +kernel
theorem dX8_cutTo_19 : decode cX8_cutTo 19 = .ok (.i2l, 1) := by decide +kernel
theorem dX8_cutTo_20 : decode cX8_cutTo 20 = .ok (.goto 15, 3) := by decide +kernel
theorem dX8_cutTo_23 : decode cX8_cutTo 23 = .ok (.iload_n 0, 1) := by decide +kernel
theorem dX8_cutTo_24 : decode cX8_cutTo 24 = .ok (.iconst 2, 1) := by decide +kernel
theorem dX8_cutTo_25 : decode cX8_cutTo 25 = .ok (.if_icmp .ne 9, 3) := by decide +kernel
theorem dX8_cutTo_28 : decode cX8_cutTo 28 = .ok (.lload_n 1, 1) := by decide +kernel
theorem dX8_cutTo_29 : decode cX8_cutTo 29 = .ok (.l2i, 1) := by decide +kernel
theorem dX8_cutTo_30 : decode cX8_cutTo 30 = .ok (.i2l, 1) := by decide +kernel
theorem dX8_cutTo_31 : decode cX8_cutTo 31 = .ok (.goto 4, 3) := by decide +kernel
theorem dX8_cutTo_34 : decode cX8_cutTo 34 = .ok (.lload_n 1, 1) := by decide +kernel
theorem dX8_cutTo_35 : decode cX8_cutTo 35 = .ok (.lreturn, 1) := by decide +kernel
set_option maxRecDepth 20000 in
theorem ggX8_log_X8_isSheet : GoodIn wsX8_log wsX8_isSheet := goodIn_r _ [6, 7, 8, 5, 9] (by decide +kernel) (by decide +kernel)
set_option maxRecDepth 20000 in
theorem gX8_log_X8_isSheet : GoodIn wsX8_log (va_wsS RX8 238 yX8_isSheet wsX8_isSheet) := goodIn_app (goodIn_of _ (by decide +kernel)) ggX8_log_X8_isSheet
set_option maxRecDepth 20000 in
theorem ggX8_log_X8_in : GoodIn wsX8_log wsX8_in := goodIn_r _ [9] (by decide +kernel) (by decide +kernel)
set_option maxRecDepth 20000 in
theorem gX8_log_X8_in : GoodIn wsX8_log (va_wsS RX8 60 yX8_in wsX8_in) := goodIn_app (goodIn_of _ (by decide +kernel)) ggX8_log_X8_in
set_option maxRecDepth 20000 in
theorem ggX8_log_X8_wrong : GoodIn wsX8_log wsX8_wrong := goodIn_r _ [13, 14, 15, 16, 17, 5, 18, 55, 56, 57, 58, 59, 60, 61, 62, 63, 64, 65, 66, 67, 68, 69, 70, 71, 72, 73, 74, 75, 76] (by decide +kernel) (by decide +kernel)
set_option maxRecDepth 20000 in
theorem gX8_log_X8_wrong : GoodIn wsX8_log (wsV RX8 243 RX8 yX8_wrong wsX8_wrong) := goodIn_app (goodIn_of _ (by decide +kernel)) ggX8_log_X8_wrong
set_option maxRecDepth 20000 in
theorem ggX8_log_X8_casesLeft : GoodIn wsX8_log wsX8_casesLeft := goodIn_r _ [22, 23, 55, 56, 57, 58, 59, 60, 61, 62, 63, 64, 65, 66, 67, 68, 69, 70, 71, 72, 73, 74, 75, 76] (by decide +kernel) (by decide +kernel)
set_option maxRecDepth 20000 in
theorem gX8_log_X8_casesLeft : GoodIn wsX8_log (wsV RX8 137 RX8 yX8_casesLeft wsX8_casesLeft) := goodIn_app (goodIn_of _ (by decide +kernel)) ggX8_log_X8_casesLeft
set_option maxRecDepth 20000 in
theorem ggX8_log_X8_begin : GoodIn wsX8_log wsX8_begin := goodIn_r _ [27, 23, 2, 28, 29, 5, 30, 55, 56, 57, 58, 59, 60, 61, 62, 63, 64, 65, 66, 67, 68, 69, 70, 71, 72, 73, 74, 75, 76] (by decide +kernel) (by decide +kernel)
set_option maxRecDepth 20000 in
theorem gX8_log_X8_begin : GoodIn wsX8_log (wsV RX8 157 RX8 yX8_begin wsX8_begin) := goodIn_app (goodIn_of _ (by decide +kernel)) ggX8_log_X8_begin
set_option maxRecDepth 20000 in
theorem ggX8_log_X8_hears : GoodIn wsX8_log wsX8_hears := goodIn_r _ [33, 34, 35, 5, 36, 37, 38, 39, 40, 41, 42, 43, 44, 45, 46, 47, 48, 49, 50, 51] (by decide +kernel) (by decide +kernel)
set_option maxRecDepth 20000 in
theorem gX8_log_X8_hears : GoodIn wsX8_log (va_wsS RX8 143 yX8_hears wsX8_hears) := goodIn_app (goodIn_of _ (by decide +kernel)) ggX8_log_X8_hears
set_option maxRecDepth 20000 in
theorem ggX8_log_X8_cutTo : GoodIn wsX8_log wsX8_cutTo := goodIn_r _ [54] (by decide +kernel) (by decide +kernel)
set_option maxRecDepth 20000 in
theorem gX8_log_X8_cutTo : GoodIn wsX8_log (va_wsS RX8 247 yX8_cutTo wsX8_cutTo) := goodIn_app (goodIn_of _ (by decide +kernel)) ggX8_log_X8_cutTo
theorem dX8_log_0 : decode cX8_log 0 = .ok (.iload_n 1, 1) := by decide +kernel
theorem dX8_log_1 : decode cX8_log 1 = .ok (.invokestatic 238, 3) := by decide +kernel
theorem dX8_log_4 : decode cX8_log 4 = .ok (.ifCond .eq 23, 3) := by decide +kernel
theorem dX8_log_7 : decode cX8_log 7 = .ok (.iload_n 2, 1) := by decide +kernel
theorem dX8_log_8 : decode cX8_log 8 = .ok (.iconst 0, 1) := by decide +kernel
theorem dX8_log_9 : decode cX8_log 9 = .ok (.iconst 3, 1) := by decide +kernel
theorem dX8_log_10 : decode cX8_log 10 = .ok (.invokestatic 60, 3) := by decide +kernel
theorem dX8_log_13 : decode cX8_log 13 = .ok (.ifCond .eq 14, 3) := by decide +kernel
theorem dX8_log_16 : decode cX8_log 16 = .ok (.iload 4, 2) := by decide +kernel
theorem dX8_log_18 : decode cX8_log 18 = .ok (.iconst 1, 1) := by decide +kernel
theorem dX8_log_19 : decode cX8_log 19 = .ok (.bipush 12, 2) := by decide +kernel
theorem dX8_log_21 : decode cX8_log 21 = .ok (.invokestatic 60, 3) := by decide +kernel
theorem dX8_log_24 : decode cX8_log 24 = .ok (.ifCond .ne 5, 3) := by decide +kernel
theorem dX8_log_27 : decode cX8_log 27 = .ok (.iconst (-1), 1) := by decide +kernel
theorem dX8_log_28 : decode cX8_log 28 = .ok (.ireturn, 1) := by decide +kernel
theorem dX8_log_29 : decode cX8_log 29 = .ok (.aload_n 0, 1) := by decide +kernel
theorem dX8_log_30 : decode cX8_log 30 = .ok (.iload_n 1, 1) := by decide +kernel
theorem dX8_log_31 : decode cX8_log 31 = .ok (.iload_n 2, 1) := by decide +kernel
theorem dX8_log_32 : decode cX8_log 32 = .ok (.iload_n 3, 1) := by decide +kernel
theorem dX8_log_33 : decode cX8_log 33 = .ok (.iload 4, 2) := by decide +kernel
theorem dX8_log_35 : decode cX8_log 35 = .ok (.invokevirtual 243, 3) := by decide +kernel
theorem dX8_log_38 : decode cX8_log 38 = .ok (.istore 5, 2) := by decide +kernel
theorem dX8_log_40 : decode cX8_log 40 = .ok (.iload 5, 2) := by decide +kernel
theorem dX8_log_42 : decode cX8_log 42 = .ok (.ifCond .eq 6, 3) := by decide +kernel
theorem dX8_log_45 : decode cX8_log 45 = .ok (.iload 5, 2) := by decide +kernel
theorem dX8_log_47 : decode cX8_log 47 = .ok (.ireturn, 1) := by decide +kernel
theorem dX8_log_48 : decode cX8_log 48 = .ok (.iload 4, 2) := by decide +kernel
theorem dX8_log_50 : decode cX8_log 50 = .ok (.aload_n 0, 1) := by decide +kernel
theorem dX8_log_51 : decode cX8_log 51 = .ok (.invokevirtual 137, 3) := by decide +kernel
theorem dX8_log_54 : decode cX8_log 54 = .ok (.if_icmp .le 6, 3) := by decide +kernel
theorem dX8_log_57 : decode cX8_log 57 = .ok (.bipush (-2), 2) := by decide +kernel
theorem dX8_log_59 : decode cX8_log 59 = .ok (.ireturn, 1) := by decide +kernel
theorem dX8_log_60 : decode cX8_log 60 = .ok (.aload_n 0, 1) := by decide +kernel
theorem dX8_log_61 : decode cX8_log 61 = .ok (.invokevirtual 157, 3) := by decide +kernel
theorem dX8_log_64 : decode cX8_log 64 = .ok (.iconst 0, 1) := by decide +kernel
theorem dX8_log_65 : decode cX8_log 65 = .ok (.istore 6, 2) := by decide +kernel
theorem dX8_log_67 : decode cX8_log 67 = .ok (.iload 6, 2) := by decide +kernel
theorem dX8_log_69 : decode cX8_log 69 = .ok (.iload 4, 2) := by decide +kernel
theorem dX8_log_71 : decode cX8_log 71 = .ok (.if_icmp .ge 37, 3) := by decide +kernel
theorem dX8_log_74 : decode cX8_log 74 = .ok (.aload_n 0, 1) := by decide +kernel
theorem dX8_log_75 : decode cX8_log 75 = .ok (.getfield 16, 3) := by decide +kernel
theorem dX8_log_78 : decode cX8_log 78 = .ok (.bipush 24, 2) := by decide +kernel
theorem dX8_log_80 : decode cX8_log 80 = .ok (.iload_n 1, 1) := by decide +kernel
theorem dX8_log_81 : decode cX8_log 81 = .ok (.imul, 1) := by decide +kernel
theorem dX8_log_82 : decode cX8_log 82 = .ok (.iload_n 3, 1) := by decide +kernel
theorem dX8_log_83 : decode cX8_log 83 = .ok (.iadd, 1) := by decide +kernel
theorem dX8_log_84 : decode cX8_log 84 = .ok (.iload 6, 2) := by decide +kernel
theorem dX8_log_86 : decode cX8_log 86 = .ok (.iadd, 1) := by decide +kernel
theorem dX8_log_87 : decode cX8_log 87 = .ok (.iload_n 2, 1) := by decide +kernel
theorem dX8_log_88 : decode cX8_log 88 = .ok (.aload_n 0, 1) := by decide +kernel
theorem dX8_log_89 : decode cX8_log 89 = .ok (.getfield 29, 3) := by decide +kernel
theorem dX8_log_92 : decode cX8_log 92 = .ok (.bipush (-4), 2) := by decide +kernel
theorem dX8_log_94 : decode cX8_log 94 = .ok (.invokestatic 143, 3) := by decide +kernel
theorem dX8_log_97 : decode cX8_log 97 = .ok (.i2l, 1) := by decide +kernel
theorem dX8_log_98 : decode cX8_log 98 = .ok (.invokestatic 247, 3) := by decide +kernel
theorem dX8_log_101 : decode cX8_log 101 = .ok (.lastore, 1) := by decide +kernel
theorem dX8_log_102 : decode cX8_log 102 = .ok (.iinc 6 1, 3) := by decide +kernel
theorem dX8_log_105 : decode cX8_log 105 = .ok (.goto (-38), 3) := by decide +kernel
theorem dX8_log_108 : decode cX8_log 108 = .ok (.iload 4, 2) := by decide +kernel
theorem dX8_log_110 : decode cX8_log 110 = .ok (.ireturn, 1) := by decide +kernel
theorem dX8_areBelow_0 : decode cX8_areBelow 0 = .ok (.iconst 1, 1) := by decide +kernel
theorem dX8_areBelow_1 : decode cX8_areBelow 1 = .ok (.istore 5, 2) := by decide +kernel
theorem dX8_areBelow_3 : decode cX8_areBelow 3 = .ok (.iconst 0, 1) := by decide +kernel
theorem dX8_areBelow_4 : decode cX8_areBelow 4 = .ok (.istore 6, 2) := by decide +kernel
theorem dX8_areBelow_6 : decode cX8_areBelow 6 = .ok (.iload 6, 2) := by decide +kernel
theorem dX8_areBelow_8 : decode cX8_areBelow 8 = .ok (.iload_n 2, 1) := by decide +kernel
theorem dX8_areBelow_9 : decode cX8_areBelow 9 = .ok (.if_icmp .ge 80, 3) := by decide +kernel
theorem dX8_areBelow_12 : decode cX8_areBelow 12 = .ok (.aload_n 0, 1) := by decide +kernel
theorem dX8_areBelow_13 : decode cX8_areBelow 13 = .ok (.getfield 16, 3) := by decide +kernel
theorem dX8_areBelow_16 : decode cX8_areBelow 16 = .ok (.iload_n 1, 1) := by decide +kernel
theorem dX8_areBelow_17 : decode cX8_areBelow 17 = .ok (.iconst 2, 1) := by decide +kernel
theorem dX8_areBelow_18 : decode cX8_areBelow 18 = .ok (.iload 6, 2) := by decide +kernel
theorem dX8_areBelow_20 : decode cX8_areBelow 20 = .ok (.imul, 1) := by decide +kernel
theorem dX8_areBelow_21 : decode cX8_areBelow 21 = .ok (.iadd, 1) := by decide +kernel
theorem dX8_areBelow_22 : decode cX8_areBelow 22 = .ok (.laload, 1) := by decide +kernel
theorem dX8_areBelow_23 : decode cX8_areBelow 23 = .ok (.lstore 7, 2) := by decide +kernel
theorem dX8_areBelow_25 : decode cX8_areBelow 25 = .ok (.aload_n 0, 1) := by decide +kernel
theorem dX8_areBelow_26 : decode cX8_areBelow 26 = .ok (.getfield 16, 3) := by decide +kernel
theorem dX8_areBelow_29 : decode cX8_areBelow 29 = .ok (.iload_n 1, 1) := by decide +kernel
theorem dX8_areBelow_30 : decode cX8_areBelow 30 = .ok (.iconst 2, 1) := by decide +kernel
theorem dX8_areBelow_31 : decode cX8_areBelow 31 = .ok (.iload 6, 2) := by decide +kernel
theorem dX8_areBelow_33 : decode cX8_areBelow 33 = .ok (.imul, 1) := by decide +kernel
theorem dX8_areBelow_34 : decode cX8_areBelow 34 = .ok (.iadd, 1) := by decide +kernel
theorem dX8_areBelow_35 : decode cX8_areBelow 35 = .ok (.iconst 1, 1) := by decide +kernel
theorem dX8_areBelow_36 : decode cX8_areBelow 36 = .ok (.iadd, 1) := by decide +kernel
theorem dX8_areBelow_37 : decode cX8_areBelow 37 = .ok (.laload, 1) := by decide +kernel
theorem dX8_areBelow_38 : decode cX8_areBelow 38 = .ok (.lstore 9, 2) := by decide +kernel
theorem dX8_areBelow_40 : decode cX8_areBelow 40 = .ok (.iload 5, 2) := by decide +kernel
theorem dX8_areBelow_42 : decode cX8_areBelow 42 = .ok (.ifCond .eq 38, 3) := by decide +kernel
theorem dX8_areBelow_45 : decode cX8_areBelow 45 = .ok (.lload 7, 2) := by decide +kernel
theorem dX8_areBelow_47 : decode cX8_areBelow 47 = .ok (.lconst 0, 1) := by decide +kernel
theorem dX8_areBelow_48 : decode cX8_areBelow 48 = .ok (.lcmp, 1) := by decide +kernel
theorem dX8_areBelow_49 : decode cX8_areBelow 49 = .ok (.ifCond .lt 31, 3) := by decide +kernel
theorem dX8_areBelow_52 : decode cX8_areBelow 52 = .ok (.lload 7, 2) := by decide +kernel
theorem dX8_areBelow_54 : decode cX8_areBelow 54 = .ok (.iload_n 3, 1) := by decide +kernel
theorem dX8_areBelow_55 : decode cX8_areBelow 55 = .ok (.i2l, 1) := by decide +kernel
theorem dX8_areBelow_56 : decode cX8_areBelow 56 = .ok (.lcmp, 1) := by decide +kernel
theorem dX8_areBelow_57 : decode cX8_areBelow 57 = .ok (.ifCond .ge 23, 3) := by decide +kernel
theorem dX8_areBelow_60 : decode cX8_areBelow 60 = .ok (.lload 9, 2) := by decide +kernel
theorem dX8_areBelow_62 : decode cX8_areBelow 62 = .ok (.lconst 0, 1) := by decide +kernel
theorem dX8_areBelow_63 : decode cX8_areBelow 63 = .ok (.lcmp, 1) := by decide +kernel
theorem dX8_areBelow_64 : decode cX8_areBelow 64 = .ok (.ifCond .lt 16, 3) := by decide +kernel
theorem dX8_areBelow_67 : decode cX8_areBelow 67 = .ok (.lload 9, 2) := by decide +kernel
theorem dX8_areBelow_69 : decode cX8_areBelow 69 = .ok (.iload 4, 2) := by decide +kernel
theorem dX8_areBelow_71 : decode cX8_areBelow 71 = .ok (.i2l, 1) := by decide +kernel
theorem dX8_areBelow_72 : decode cX8_areBelow 72 = .ok (.lcmp, 1) := by decide +kernel
theorem dX8_areBelow_73 : decode cX8_areBelow 73 = .ok (.ifCond .ge 7, 3) := by decide +kernel
theorem dX8_areBelow_76 : decode cX8_areBelow 76 = .ok (.iconst 1, 1) := by decide +kernel
theorem dX8_areBelow_77 : decode cX8_areBelow 77 = .ok (.goto 4, 3) := by decide +kernel
theorem dX8_areBelow_80 : decode cX8_areBelow 80 = .ok (.iconst 0, 1) := by decide +kernel
theorem dX8_areBelow_81 : decode cX8_areBelow 81 = .ok (.istore 5, 2) := by decide +kernel
theorem dX8_areBelow_83 : decode cX8_areBelow 83 = .ok (.iinc 6 1, 3) := by decide +kernel
theorem dX8_areBelow_86 : decode cX8_areBelow 86 = .ok (.goto (-80), 3) := by decide +kernel
theorem dX8_areBelow_89 : decode cX8_areBelow 89 = .ok (.iload 5, 2) := by decide +kernel
theorem dX8_areBelow_91 : decode cX8_areBelow 91 = .ok (.ireturn, 1) := by decide +kernel
set_option maxRecDepth 20000 in
theorem ggX8_isForBy_X8_foundBy : GoodIn wsX8_isForBy wsX8_foundBy := goodIn_r _ [5] (by decide +kernel) (by decide +kernel)
set_option maxRecDepth 20000 in
theorem gX8_isForBy_X8_foundBy : GoodIn wsX8_isForBy (va_wsS RX8 122 yX8_foundBy wsX8_foundBy) := goodIn_app (goodIn_of _ (by decide +kernel)) ggX8_isForBy_X8_foundBy
theorem dX8_isForBy_0 : decode cX8_isForBy 0 = .ok (.aload_n 0, 1) := by decide +kernel
theorem dX8_isForBy_1 : decode cX8_isForBy 1 = .ok (.getfield 23, 3) := by decide +kernel
theorem dX8_isForBy_4 : decode cX8_isForBy 4 = .ok (.iload_n 1, 1) := by decide +kernel
theorem dX8_isForBy_5 : decode cX8_isForBy 5 = .ok (.iload_n 2, 1) := by decide +kernel
theorem dX8_isForBy_6 : decode cX8_isForBy 6 = .ok (.iload_n 3, 1) := by decide +kernel
theorem dX8_isForBy_7 : decode cX8_isForBy 7 = .ok (.invokestatic 122, 3) := by decide +kernel
theorem dX8_isForBy_10 : decode cX8_isForBy 10 = .ok (.aload_n 0, 1) := by decide +kernel
theorem dX8_isForBy_11 : decode cX8_isForBy 11 = .ok (.getfield 23, 3) := by decide +kernel
theorem dX8_isForBy_14 : decode cX8_isForBy 14 = .ok (.bipush 35, 2) := by decide +kernel
theorem dX8_isForBy_16 : decode cX8_isForBy 16 = .ok (.iload_n 3, 1) := by decide +kernel
theorem dX8_isForBy_17 : decode cX8_isForBy 17 = .ok (.iadd, 1) := by decide +kernel
theorem dX8_isForBy_18 : decode cX8_isForBy 18 = .ok (.iaload, 1) := by decide +kernel
theorem dX8_isForBy_19 : decode cX8_isForBy 19 = .ok (.if_icmp .ne 7, 3) := by decide +kernel
theorem dX8_isForBy_22 : decode cX8_isForBy 22 = .ok (.iconst 1, 1) := by decide +kernel
theorem dX8_isForBy_23 : decode cX8_isForBy 23 = .ok (.goto 4, 3) := by decide +kernel
theorem dX8_isForBy_26 : decode cX8_isForBy 26 = .ok (.iconst 0, 1) := by decide +kernel
theorem dX8_isForBy_27 : decode cX8_isForBy 27 = .ok (.ireturn, 1) := by decide +kernel
set_option maxRecDepth 20000 in
theorem ggX8_leansBy_X8_isForBy : GoodIn wsX8_leansBy wsX8_isForBy := goodIn_r _ [6, 7, 8, 9, 5, 10, 11, 12, 13, 14, 15, 16, 17, 18, 19, 20, 21, 22, 23, 24, 25, 26, 27, 28, 29, 30, 31, 32] (by decide +kernel) (by decide +kernel)
set_option maxRecDepth 20000 in
theorem gX8_leansBy_X8_isForBy : GoodIn wsX8_leansBy (wsV RX8 251 RX8 yX8_isForBy wsX8_isForBy) := goodIn_app (goodIn_of _ (by decide +kernel)) ggX8_leansBy_X8_isForBy
theorem dX8_leansBy_0 : decode cX8_leansBy 0 = .ok (.iconst 0, 1) := by decide +kernel
theorem dX8_leansBy_1 : decode cX8_leansBy 1 = .ok (.istore 4, 2) := by decide +kernel
theorem dX8_leansBy_3 : decode cX8_leansBy 3 = .ok (.iconst 0, 1) := by decide +kernel
theorem dX8_leansBy_4 : decode cX8_leansBy 4 = .ok (.istore 5, 2) := by decide +kernel
theorem dX8_leansBy_6 : decode cX8_leansBy 6 = .ok (.iload 5, 2) := by decide +kernel
theorem dX8_leansBy_8 : decode cX8_leansBy 8 = .ok (.bipush 9, 2) := by decide +kernel
theorem dX8_leansBy_10 : decode cX8_leansBy 10 = .ok (.if_icmp .gt 102, 3) := by decide +kernel
theorem dX8_leansBy_13 : decode cX8_leansBy 13 = .ok (.iconst 1, 1) := by decide +kernel
theorem dX8_leansBy_14 : decode cX8_leansBy 14 = .ok (.istore 6, 2) := by decide +kernel
theorem dX8_leansBy_16 : decode cX8_leansBy 16 = .ok (.iconst 0, 1) := by decide +kernel
theorem dX8_leansBy_17 : decode cX8_leansBy 17 = .ok (.istore 7, 2) := by decide +kernel
theorem dX8_leansBy_19 : decode cX8_leansBy 19 = .ok (.iload 7, 2) := by decide +kernel
theorem dX8_leansBy_21 : decode cX8_leansBy 21 = .ok (.iload_n 3, 1) := by decide +kernel
theorem dX8_leansBy_22 : decode cX8_leansBy 22 = .ok (.if_icmp .ge 66, 3) := by decide +kernel
theorem dX8_leansBy_25 : decode cX8_leansBy 25 = .ok (.iload 6, 2) := by decide +kernel
theorem dX8_leansBy_27 : decode cX8_leansBy 27 = .ok (.ifCond .eq 52, 3) := by decide +kernel
theorem dX8_leansBy_30 : decode cX8_leansBy 30 = .ok (.aload_n 0, 1) := by decide +kernel
theorem dX8_leansBy_31 : decode cX8_leansBy 31 = .ok (.iload_n 1, 1) := by decide +kernel
theorem dX8_leansBy_32 : decode cX8_leansBy 32 = .ok (.iload 5, 2) := by decide +kernel
theorem dX8_leansBy_34 : decode cX8_leansBy 34 = .ok (.aload_n 0, 1) := by decide +kernel
theorem dX8_leansBy_35 : decode cX8_leansBy 35 = .ok (.getfield 16, 3) := by decide +kernel
theorem dX8_leansBy_38 : decode cX8_leansBy 38 = .ok (.iload_n 2, 1) := by decide +kernel
theorem dX8_leansBy_39 : decode cX8_leansBy 39 = .ok (.iconst 2, 1) := by decide +kernel
theorem dX8_leansBy_40 : decode cX8_leansBy 40 = .ok (.iload 7, 2) := by decide +kernel
theorem dX8_leansBy_42 : decode cX8_leansBy 42 = .ok (.imul, 1) := by decide +kernel
theorem dX8_leansBy_43 : decode cX8_leansBy 43 = .ok (.iadd, 1) := by decide +kernel
theorem dX8_leansBy_44 : decode cX8_leansBy 44 = .ok (.laload, 1) := by decide +kernel
theorem dX8_leansBy_45 : decode cX8_leansBy 45 = .ok (.l2i, 1) := by decide +kernel
theorem dX8_leansBy_46 : decode cX8_leansBy 46 = .ok (.invokevirtual 251, 3) := by decide +kernel
theorem dX8_leansBy_49 : decode cX8_leansBy 49 = .ok (.aload_n 0, 1) := by decide +kernel
theorem dX8_leansBy_50 : decode cX8_leansBy 50 = .ok (.getfield 16, 3) := by decide +kernel
theorem dX8_leansBy_53 : decode cX8_leansBy 53 = .ok (.iload_n 2, 1) := by decide +kernel
theorem dX8_leansBy_54 : decode cX8_leansBy 54 = .ok (.iconst 2, 1) := by decide +kernel
theorem dX8_leansBy_55 : decode cX8_leansBy 55 = .ok (.iload 7, 2) := by decide +kernel
theorem dX8_leansBy_57 : decode cX8_leansBy 57 = .ok (.imul, 1) := by decide +kernel
theorem dX8_leansBy_58 : decode cX8_leansBy 58 = .ok (.iadd, 1) := by decide +kernel
theorem dX8_leansBy_59 : decode cX8_leansBy 59 = .ok (.iconst 1, 1) := by decide +kernel
theorem dX8_leansBy_60 : decode cX8_leansBy 60 = .ok (.iadd, 1) := by decide +kernel
theorem dX8_leansBy_61 : decode cX8_leansBy 61 = .ok (.laload, 1) := by decide +kernel
theorem dX8_leansBy_62 : decode cX8_leansBy 62 = .ok (.lconst 0, 1) := by decide +kernel
theorem dX8_leansBy_63 : decode cX8_leansBy 63 = .ok (.lcmp, 1) := by decide +kernel
theorem dX8_leansBy_64 : decode cX8_leansBy 64 = .ok (.ifCond .ne 7, 3) := by decide +kernel
theorem dX8_leansBy_67 : decode cX8_leansBy 67 = .ok (.iconst 1, 1) := by decide +kernel
theorem dX8_leansBy_68 : decode cX8_leansBy 68 = .ok (.goto 4, 3) := by decide +kernel
theorem dX8_leansBy_71 : decode cX8_leansBy 71 = .ok (.iconst 0, 1) := by decide +kernel
theorem dX8_leansBy_72 : decode cX8_leansBy 72 = .ok (.if_icmp .ne 7, 3) := by decide +kernel
theorem dX8_leansBy_75 : decode cX8_leansBy 75 = .ok (.iconst 1, 1) := by decide +kernel
theorem dX8_leansBy_76 : decode cX8_leansBy 76 = .ok (.goto 4, 3) := by decide +kernel
theorem dX8_leansBy_79 : decode cX8_leansBy 79 = .ok (.iconst 0, 1) := by decide +kernel
theorem dX8_leansBy_80 : decode cX8_leansBy 80 = .ok (.istore 6, 2) := by decide +kernel
theorem dX8_leansBy_82 : decode cX8_leansBy 82 = .ok (.iinc 7 1, 3) := by decide +kernel
theorem dX8_leansBy_85 : decode cX8_leansBy 85 = .ok (.goto (-66), 3) := by decide +kernel
theorem dX8_leansBy_88 : decode cX8_leansBy 88 = .ok (.iload 4, 2) := by decide +kernel
theorem dX8_leansBy_90 : decode cX8_leansBy 90 = .ok (.iload 6, 2) := by decide +kernel
theorem dX8_leansBy_92 : decode cX8_leansBy 92 = .ok (.ifCond .eq 10, 3) := by decide +kernel
theorem dX8_leansBy_95 : decode cX8_leansBy 95 = .ok (.iconst 1, 1) := by decide +kernel
theorem dX8_leansBy_96 : decode cX8_leansBy 96 = .ok (.iload 5, 2) := by decide +kernel
theorem dX8_leansBy_98 : decode cX8_leansBy 98 = .ok (.ishl, 1) := by decide +kernel
theorem dX8_leansBy_99 : decode cX8_leansBy 99 = .ok (.goto 4, 3) := by decide +kernel
theorem dX8_leansBy_102 : decode cX8_leansBy 102 = .ok (.iconst 0, 1) := by decide +kernel
theorem dX8_leansBy_103 : decode cX8_leansBy 103 = .ok (.ior, 1) := by decide +kernel
theorem dX8_leansBy_104 : decode cX8_leansBy 104 = .ok (.istore 4, 2) := by decide +kernel
theorem dX8_leansBy_106 : decode cX8_leansBy 106 = .ok (.iinc 5 1, 3) := by decide +kernel
theorem dX8_leansBy_109 : decode cX8_leansBy 109 = .ok (.goto (-103), 3) := by decide +kernel
theorem dX8_leansBy_112 : decode cX8_leansBy 112 = .ok (.iload 4, 2) := by decide +kernel
theorem dX8_leansBy_114 : decode cX8_leansBy 114 = .ok (.ireturn, 1) := by decide +kernel
set_option maxRecDepth 20000 in
theorem ggX8_bestCase_X8_has : GoodIn wsX8_bestCase wsX8_has := goodIn_r _ [5] (by decide +kernel) (by decide +kernel)
set_option maxRecDepth 20000 in
theorem gX8_bestCase_X8_has : GoodIn wsX8_bestCase (va_wsS RX8 164 yX8_has wsX8_has) := goodIn_app (goodIn_of _ (by decide +kernel)) ggX8_bestCase_X8_has
set_option maxRecDepth 20000 in
theorem ggX8_bestCase_X8_isForBy : GoodIn wsX8_bestCase wsX8_isForBy := goodIn_r _ [9, 1, 10, 11, 4, 12, 16, 17, 18, 19, 20, 21, 22, 23, 24, 25, 26, 27, 28, 29, 30, 31, 32, 33, 34, 35, 36, 37] (by decide +kernel) (by decide +kernel)
set_option maxRecDepth 20000 in
theorem gX8_bestCase_X8_isForBy : GoodIn wsX8_bestCase (wsV RX8 251 RX8 yX8_isForBy wsX8_isForBy) := goodIn_app (goodIn_of _ (by decide +kernel)) ggX8_bestCase_X8_isForBy
set_option maxRecDepth 20000 in
theorem ggX8_bestCase_X8_bits : GoodIn wsX8_bestCase wsX8_bits := goodIn_r _ [15] (by decide +kernel) (by decide +kernel)
set_option maxRecDepth 20000 in
theorem gX8_bestCase_X8_bits : GoodIn wsX8_bestCase (va_wsS RX8 170 yX8_bits wsX8_bits) := goodIn_app (goodIn_of _ (by decide +kernel)) ggX8_bestCase_X8_bits
theorem dX8_bestCase_0 : decode cX8_bestCase 0 = .ok (.bipush (-4), 2) := by decide +kernel
theorem dX8_bestCase_2 : decode cX8_bestCase 2 = .ok (.istore_n 3, 1) := by decide +kernel
theorem dX8_bestCase_3 : decode cX8_bestCase 3 = .ok (.bipush 99, 2) := by decide +kernel
theorem dX8_bestCase_5 : decode cX8_bestCase 5 = .ok (.istore 4, 2) := by decide +kernel
theorem dX8_bestCase_7 : decode cX8_bestCase 7 = .ok (.iconst 0, 1) := by decide +kernel
theorem dX8_bestCase_8 : decode cX8_bestCase 8 = .ok (.istore 5, 2) := by decide +kernel
theorem dX8_bestCase_10 : decode cX8_bestCase 10 = .ok (.iload 5, 2) := by decide +kernel
theorem dX8_bestCase_12 : decode cX8_bestCase 12 = .ok (.aload_n 0, 1) := by decide +kernel
theorem dX8_bestCase_13 : decode cX8_bestCase 13 = .ok (.getfield 23, 3) := by decide +kernel
theorem dX8_bestCase_16 : decode cX8_bestCase 16 = .ok (.iconst 4, 1) := by decide +kernel
theorem dX8_bestCase_17 : decode cX8_bestCase 17 = .ok (.iaload, 1) := by decide +kernel
theorem dX8_bestCase_18 : decode cX8_bestCase 18 = .ok (.if_icmp .ge 118, 3) := by decide +kernel
theorem dX8_bestCase_21 : decode cX8_bestCase 21 = .ok (.iload_n 2, 1) := by decide +kernel
theorem dX8_bestCase_22 : decode cX8_bestCase 22 = .ok (.ifCond .eq 114, 3) := by decide +kernel
theorem dX8_bestCase_25 : decode cX8_bestCase 25 = .ok (.iconst 0, 1) := by decide +kernel
theorem dX8_bestCase_26 : decode cX8_bestCase 26 = .ok (.istore 6, 2) := by decide +kernel
theorem dX8_bestCase_28 : decode cX8_bestCase 28 = .ok (.iconst 0, 1) := by decide +kernel
theorem dX8_bestCase_29 : decode cX8_bestCase 29 = .ok (.istore 7, 2) := by decide +kernel
theorem dX8_bestCase_31 : decode cX8_bestCase 31 = .ok (.iload 7, 2) := by decide +kernel
theorem dX8_bestCase_33 : decode cX8_bestCase 33 = .ok (.bipush 9, 2) := by decide +kernel
theorem dX8_bestCase_35 : decode cX8_bestCase 35 = .ok (.if_icmp .gt 40, 3) := by decide +kernel
theorem dX8_bestCase_38 : decode cX8_bestCase 38 = .ok (.iload 6, 2) := by decide +kernel
theorem dX8_bestCase_40 : decode cX8_bestCase 40 = .ok (.iload_n 2, 1) := by decide +kernel
theorem dX8_bestCase_41 : decode cX8_bestCase 41 = .ok (.iload 7, 2) := by decide +kernel
theorem dX8_bestCase_43 : decode cX8_bestCase 43 = .ok (.invokestatic 164, 3) := by decide +kernel
theorem dX8_bestCase_46 : decode cX8_bestCase 46 = .ok (.ifCond .eq 19, 3) := by decide +kernel
theorem dX8_bestCase_49 : decode cX8_bestCase 49 = .ok (.aload_n 0, 1) := by decide +kernel
theorem dX8_bestCase_50 : decode cX8_bestCase 50 = .ok (.iload_n 1, 1) := by decide +kernel
theorem dX8_bestCase_51 : decode cX8_bestCase 51 = .ok (.iload 7, 2) := by decide +kernel
theorem dX8_bestCase_53 : decode cX8_bestCase 53 = .ok (.iload 5, 2) := by decide +kernel
theorem dX8_bestCase_55 : decode cX8_bestCase 55 = .ok (.invokevirtual 251, 3) := by decide +kernel
theorem dX8_bestCase_58 : decode cX8_bestCase 58 = .ok (.ifCond .eq 7, 3) := by decide +kernel
theorem dX8_bestCase_61 : decode cX8_bestCase 61 = .ok (.iconst 1, 1) := by decide +kernel
theorem dX8_bestCase_62 : decode cX8_bestCase 62 = .ok (.goto 4, 3) := by decide +kernel
theorem dX8_bestCase_65 : decode cX8_bestCase 65 = .ok (.iconst 0, 1) := by decide +kernel
theorem dX8_bestCase_66 : decode cX8_bestCase 66 = .ok (.iadd, 1) := by decide +kernel
theorem dX8_bestCase_67 : decode cX8_bestCase 67 = .ok (.istore 6, 2) := by decide +kernel
theorem dX8_bestCase_69 : decode cX8_bestCase 69 = .ok (.iinc 7 1, 3) := by decide +kernel
theorem dX8_bestCase_72 : decode cX8_bestCase 72 = .ok (.goto (-41), 3) := by decide +kernel
theorem dX8_bestCase_75 : decode cX8_bestCase 75 = .ok (.iload_n 2, 1) := by decide +kernel
theorem dX8_bestCase_76 : decode cX8_bestCase 76 = .ok (.invokestatic 170, 3) := by decide +kernel
theorem dX8_bestCase_79 : decode cX8_bestCase 79 = .ok (.iload 6, 2) := by decide +kernel
theorem dX8_bestCase_81 : decode cX8_bestCase 81 = .ok (.isub, 1) := by decide +kernel
theorem dX8_bestCase_82 : decode cX8_bestCase 82 = .ok (.istore 7, 2) := by decide +kernel
theorem dX8_bestCase_84 : decode cX8_bestCase 84 = .ok (.iload 6, 2) := by decide +kernel
theorem dX8_bestCase_86 : decode cX8_bestCase 86 = .ok (.iload 7, 2) := by decide +kernel
theorem dX8_bestCase_88 : decode cX8_bestCase 88 = .ok (.if_icmp .le 8, 3) := by decide +kernel
theorem dX8_bestCase_91 : decode cX8_bestCase 91 = .ok (.iload 6, 2) := by decide +kernel
theorem dX8_bestCase_93 : decode cX8_bestCase 93 = .ok (.goto 5, 3) := by decide +kernel
theorem dX8_bestCase_96 : decode cX8_bestCase 96 = .ok (.iload 7, 2) := by decide +kernel
theorem dX8_bestCase_98 : decode cX8_bestCase 98 = .ok (.istore 8, 2) := by decide +kernel
theorem dX8_bestCase_100 : decode cX8_bestCase 100 = .ok (.iload 8, 2) := by decide +kernel
theorem dX8_bestCase_102 : decode cX8_bestCase 102 = .ok (.iload 4, 2) := by decide +kernel
theorem dX8_bestCase_104 : decode cX8_bestCase 104 = .ok (.if_icmp .ge 8, 3) := by decide +kernel
theorem dX8_bestCase_107 : decode cX8_bestCase 107 = .ok (.iload 5, 2) := by decide +kernel
theorem dX8_bestCase_109 : decode cX8_bestCase 109 = .ok (.goto 4, 3) := by decide +kernel
theorem dX8_bestCase_112 : decode cX8_bestCase 112 = .ok (.iload_n 3, 1) := by decide +kernel
theorem dX8_bestCase_113 : decode cX8_bestCase 113 = .ok (.istore_n 3, 1) := by decide +kernel
theorem dX8_bestCase_114 : decode cX8_bestCase 114 = .ok (.iload 8, 2) := by decide +kernel
theorem dX8_bestCase_116 : decode cX8_bestCase 116 = .ok (.iload 4, 2) := by decide +kernel
theorem dX8_bestCase_118 : decode cX8_bestCase 118 = .ok (.if_icmp .ge 8, 3) := by decide +kernel
theorem dX8_bestCase_121 : decode cX8_bestCase 121 = .ok (.iload 8, 2) := by decide +kernel
theorem dX8_bestCase_123 : decode cX8_bestCase 123 = .ok (.goto 5, 3) := by decide +kernel
theorem dX8_bestCase_126 : decode cX8_bestCase 126 = .ok (.iload 4, 2) := by decide +kernel
theorem dX8_bestCase_128 : decode cX8_bestCase 128 = .ok (.istore 4, 2) := by decide +kernel
theorem dX8_bestCase_130 : decode cX8_bestCase 130 = .ok (.iinc 5 1, 3) := by decide +kernel
theorem dX8_bestCase_133 : decode cX8_bestCase 133 = .ok (.goto (-123), 3) := by decide +kernel
theorem dX8_bestCase_136 : decode cX8_bestCase 136 = .ok (.iload_n 3, 1) := by decide +kernel
theorem dX8_bestCase_137 : decode cX8_bestCase 137 = .ok (.ireturn, 1) := by decide +kernel
set_option maxRecDepth 20000 in
theorem ggX8_leans_X8_isJudge : GoodIn wsX8_leans wsX8_isJudge := goodIn_r _ [6, 1, 7, 8, 5, 9, 48, 49, 50, 51, 52, 53, 54, 55, 56, 57, 58, 59, 60, 61, 62, 63, 64, 65, 66, 67, 68, 69] (by decide +kernel) (by decide +kernel)
set_option maxRecDepth 20000 in
theorem gX8_leans_X8_isJudge : GoodIn wsX8_leans (wsV RX8 116 RX8 yX8_isJudge wsX8_isJudge) := goodIn_app (goodIn_of _ (by decide +kernel)) ggX8_leans_X8_isJudge
set_option maxRecDepth 20000 in
theorem ggX8_leans_X8_isSheet : GoodIn wsX8_leans wsX8_isSheet := goodIn_r _ [12, 7, 8, 5, 9] (by decide +kernel) (by decide +kernel)
set_option maxRecDepth 20000 in
theorem gX8_leans_X8_isSheet : GoodIn wsX8_leans (va_wsS RX8 238 yX8_isSheet wsX8_isSheet) := goodIn_app (goodIn_of _ (by decide +kernel)) ggX8_leans_X8_isSheet
set_option maxRecDepth 20000 in
theorem ggX8_leans_X8_in : GoodIn wsX8_leans wsX8_in := goodIn_r _ [9] (by decide +kernel) (by decide +kernel)
set_option maxRecDepth 20000 in
theorem gX8_leans_X8_in : GoodIn wsX8_leans (va_wsS RX8 60 yX8_in wsX8_in) := goodIn_app (goodIn_of _ (by decide +kernel)) ggX8_leans_X8_in
set_option maxRecDepth 20000 in
theorem ggX8_leans_X8_wrong : GoodIn wsX8_leans wsX8_wrong := goodIn_r _ [16, 17, 18, 19, 20, 5, 21, 48, 49, 50, 51, 52, 53, 54, 55, 56, 57, 58, 59, 60, 61, 62, 63, 64, 65, 66, 67, 68, 69] (by decide +kernel) (by decide +kernel)
set_option maxRecDepth 20000 in
theorem gX8_leans_X8_wrong : GoodIn wsX8_leans (wsV RX8 243 RX8 yX8_wrong wsX8_wrong) := goodIn_app (goodIn_of _ (by decide +kernel)) ggX8_leans_X8_wrong
set_option maxRecDepth 20000 in
theorem ggX8_leans_X8_areBelow : GoodIn wsX8_leans wsX8_areBelow := goodIn_r _ [25, 26, 48, 49, 50, 51, 52, 53, 54, 55, 56, 57, 58, 59, 60, 61, 62, 63, 64, 65, 66, 67, 68, 69] (by decide +kernel) (by decide +kernel)
set_option maxRecDepth 20000 in
theorem gX8_leans_X8_areBelow : GoodIn wsX8_leans (wsV RX8 254 RX8 yX8_areBelow wsX8_areBelow) := goodIn_app (goodIn_of _ (by decide +kernel)) ggX8_leans_X8_areBelow
set_option maxRecDepth 20000 in
theorem ggX8_leans_X8_leansBy : GoodIn wsX8_leans wsX8_leansBy := goodIn_r _ [30, 26, 31, 32, 33, 5, 34, 1, 35, 36, 37, 48, 49, 50, 51, 52, 53, 54, 55, 56, 57, 58, 59, 60, 61, 62, 63, 64, 65, 66, 67, 68, 69] (by decide +kernel) (by decide +kernel)
set_option maxRecDepth 20000 in
theorem gX8_leans_X8_leansBy : GoodIn wsX8_leans (wsV RX8 258 RX8 yX8_leansBy wsX8_leansBy) := goodIn_app (goodIn_of _ (by decide +kernel)) ggX8_leans_X8_leansBy
set_option maxRecDepth 20000 in
theorem ggX8_leans_X8_bestCase : GoodIn wsX8_leans wsX8_bestCase := goodIn_r _ [41, 1, 42, 43, 5, 44, 31, 32, 33, 34, 35, 36, 37, 45, 46, 47, 48, 49, 50, 51, 52, 53, 54, 55, 56, 57, 58, 59, 60, 61, 62, 63, 64, 65, 66, 67, 68, 69] (by decide +kernel) (by decide +kernel)
set_option maxRecDepth 20000 in
theorem gX8_leans_X8_bestCase : GoodIn wsX8_leans (wsV RX8 261 RX8 yX8_bestCase wsX8_bestCase) := goodIn_app (goodIn_of _ (by decide +kernel)) ggX8_leans_X8_bestCase
theorem dX8_leans_0 : decode cX8_leans 0 = .ok (.aload_n 0, 1) := by decide +kernel
theorem dX8_leans_1 : decode cX8_leans 1 = .ok (.iload_n 1, 1) := by decide +kernel
theorem dX8_leans_2 : decode cX8_leans 2 = .ok (.invokevirtual 116, 3) := by decide +kernel
theorem dX8_leans_5 : decode cX8_leans 5 = .ok (.ifCond .eq 40, 3) := by decide +kernel
theorem dX8_leans_8 : decode cX8_leans 8 = .ok (.iload_n 2, 1) := by decide +kernel
theorem dX8_leans_9 : decode cX8_leans 9 = .ok (.invokestatic 238, 3) := by decide +kernel
theorem dX8_leans_12 : decode cX8_leans 12 = .ok (.ifCond .eq 33, 3) := by decide +kernel
theorem dX8_leans_15 : decode cX8_leans 15 = .ok (.iload_n 3, 1) := by decide +kernel
theorem dX8_leans_16 : decode cX8_leans 16 = .ok (.iconst 0, 1) := by decide +kernel
theorem dX8_leans_17 : decode cX8_leans 17 = .ok (.iconst 3, 1) := by decide +kernel
theorem dX8_leans_18 : decode cX8_leans 18 = .ok (.invokestatic 60, 3) := by decide +kernel
theorem dX8_leans_21 : decode cX8_leans 21 = .ok (.ifCond .eq 24, 3) := by decide +kernel
theorem dX8_leans_24 : decode cX8_leans 24 = .ok (.iload 5, 2) := by decide +kernel
theorem dX8_leans_26 : decode cX8_leans 26 = .ok (.iconst 1, 1) := by decide +kernel
theorem dX8_leans_27 : decode cX8_leans 27 = .ok (.bipush 10, 2) := by decide +kernel
theorem dX8_leans_29 : decode cX8_leans 29 = .ok (.invokestatic 60, 3) := by decide +kernel
theorem dX8_leans_32 : decode cX8_leans 32 = .ok (.ifCond .eq 13, 3) := by decide +kernel
theorem dX8_leans_35 : decode cX8_leans 35 = .ok (.iload 6, 2) := by decide +kernel
theorem dX8_leans_37 : decode cX8_leans 37 = .ok (.iconst 0, 1) := by decide +kernel
theorem dX8_leans_38 : decode cX8_leans 38 = .ok (.iconst 1, 1) := by decide +kernel
theorem dX8_leans_39 : decode cX8_leans 39 = .ok (.invokestatic 60, 3) := by decide +kernel
theorem dX8_leans_42 : decode cX8_leans 42 = .ok (.ifCond .ne 5, 3) := by decide +kernel
theorem dX8_leans_45 : decode cX8_leans 45 = .ok (.iconst (-1), 1) := by decide +kernel
theorem dX8_leans_46 : decode cX8_leans 46 = .ok (.ireturn, 1) := by decide +kernel
theorem dX8_leans_47 : decode cX8_leans 47 = .ok (.aload_n 0, 1) := by decide +kernel
theorem dX8_leans_48 : decode cX8_leans 48 = .ok (.iload_n 2, 1) := by decide +kernel
theorem dX8_leans_49 : decode cX8_leans 49 = .ok (.iload_n 3, 1) := by decide +kernel
theorem dX8_leans_50 : decode cX8_leans 50 = .ok (.iload 4, 2) := by decide +kernel
theorem dX8_leans_52 : decode cX8_leans 52 = .ok (.iconst 2, 1) := by decide +kernel
theorem dX8_leans_53 : decode cX8_leans 53 = .ok (.iload 5, 2) := by decide +kernel
theorem dX8_leans_55 : decode cX8_leans 55 = .ok (.imul, 1) := by decide +kernel
theorem dX8_leans_56 : decode cX8_leans 56 = .ok (.invokevirtual 243, 3) := by decide +kernel
theorem dX8_leans_59 : decode cX8_leans 59 = .ok (.istore 7, 2) := by decide +kernel
theorem dX8_leans_61 : decode cX8_leans 61 = .ok (.iload 7, 2) := by decide +kernel
theorem dX8_leans_63 : decode cX8_leans 63 = .ok (.ifCond .eq 6, 3) := by decide +kernel
theorem dX8_leans_66 : decode cX8_leans 66 = .ok (.iload 7, 2) := by decide +kernel
theorem dX8_leans_68 : decode cX8_leans 68 = .ok (.ireturn, 1) := by decide +kernel
theorem dX8_leans_69 : decode cX8_leans 69 = .ok (.aload_n 0, 1) := by decide +kernel
theorem dX8_leans_70 : decode cX8_leans 70 = .ok (.bipush 24, 2) := by decide +kernel
theorem dX8_leans_72 : decode cX8_leans 72 = .ok (.iload_n 2, 1) := by decide +kernel
theorem dX8_leans_73 : decode cX8_leans 73 = .ok (.imul, 1) := by decide +kernel
theorem dX8_leans_74 : decode cX8_leans 74 = .ok (.iload 4, 2) := by decide +kernel
theorem dX8_leans_76 : decode cX8_leans 76 = .ok (.iadd, 1) := by decide +kernel
theorem dX8_leans_77 : decode cX8_leans 77 = .ok (.iload 5, 2) := by decide +kernel
theorem dX8_leans_79 : decode cX8_leans 79 = .ok (.aload_n 0, 1) := by decide +kernel
theorem dX8_leans_80 : decode cX8_leans 80 = .ok (.getfield 23, 3) := by decide +kernel
theorem dX8_leans_83 : decode cX8_leans 83 = .ok (.iconst 4, 1) := by decide +kernel
theorem dX8_leans_84 : decode cX8_leans 84 = .ok (.iaload, 1) := by decide +kernel
theorem dX8_leans_85 : decode cX8_leans 85 = .ok (.iconst 2, 1) := by decide +kernel
theorem dX8_leans_86 : decode cX8_leans 86 = .ok (.invokevirtual 254, 3) := by decide +kernel
theorem dX8_leans_89 : decode cX8_leans 89 = .ok (.ifCond .ne 6, 3) := by decide +kernel
theorem dX8_leans_92 : decode cX8_leans 92 = .ok (.bipush (-2), 2) := by decide +kernel
theorem dX8_leans_94 : decode cX8_leans 94 = .ok (.ireturn, 1) := by decide +kernel
theorem dX8_leans_95 : decode cX8_leans 95 = .ok (.aload_n 0, 1) := by decide +kernel
theorem dX8_leans_96 : decode cX8_leans 96 = .ok (.iload_n 1, 1) := by decide +kernel
theorem dX8_leans_97 : decode cX8_leans 97 = .ok (.bipush 24, 2) := by decide +kernel
theorem dX8_leans_99 : decode cX8_leans 99 = .ok (.iload_n 2, 1) := by decide +kernel
theorem dX8_leans_100 : decode cX8_leans 100 = .ok (.imul, 1) := by decide +kernel
theorem dX8_leans_101 : decode cX8_leans 101 = .ok (.iload 4, 2) := by decide +kernel
theorem dX8_leans_103 : decode cX8_leans 103 = .ok (.iadd, 1) := by decide +kernel
theorem dX8_leans_104 : decode cX8_leans 104 = .ok (.iload 5, 2) := by decide +kernel
theorem dX8_leans_106 : decode cX8_leans 106 = .ok (.invokevirtual 258, 3) := by decide +kernel
theorem dX8_leans_109 : decode cX8_leans 109 = .ok (.istore 8, 2) := by decide +kernel
theorem dX8_leans_111 : decode cX8_leans 111 = .ok (.iload 6, 2) := by decide +kernel
theorem dX8_leans_113 : decode cX8_leans 113 = .ok (.ifCond .ne 8, 3) := by decide +kernel
theorem dX8_leans_116 : decode cX8_leans 116 = .ok (.iload 8, 2) := by decide +kernel
theorem dX8_leans_118 : decode cX8_leans 118 = .ok (.goto 10, 3) := by decide +kernel
theorem dX8_leans_121 : decode cX8_leans 121 = .ok (.aload_n 0, 1) := by decide +kernel
theorem dX8_leans_122 : decode cX8_leans 122 = .ok (.iload_n 1, 1) := by decide +kernel
theorem dX8_leans_123 : decode cX8_leans 123 = .ok (.iload 8, 2) := by decide +kernel
theorem dX8_leans_125 : decode cX8_leans 125 = .ok (.invokevirtual 261, 3) := by decide +kernel
theorem dX8_leans_128 : decode cX8_leans 128 = .ok (.ireturn, 1) := by decide +kernel
set_option maxRecDepth 20000 in
theorem ggX8_kindsBy_X8_namedBy : GoodIn wsX8_kindsBy wsX8_namedBy := goodIn_r _ [6, 7, 8, 5, 9] (by decide +kernel) (by decide +kernel)
set_option maxRecDepth 20000 in
theorem gX8_kindsBy_X8_namedBy : GoodIn wsX8_kindsBy (va_wsS RX8 113 yX8_namedBy wsX8_namedBy) := goodIn_app (goodIn_of _ (by decide +kernel)) ggX8_kindsBy_X8_namedBy
theorem dX8_kindsBy_0 : decode cX8_kindsBy 0 = .ok (.iconst 0, 1) := by decide +kernel
theorem dX8_kindsBy_1 : decode cX8_kindsBy 1 = .ok (.istore 4, 2) := by decide +kernel
theorem dX8_kindsBy_3 : decode cX8_kindsBy 3 = .ok (.iconst 1, 1) := by decide +kernel
theorem dX8_kindsBy_4 : decode cX8_kindsBy 4 = .ok (.istore 5, 2) := by decide +kernel
theorem dX8_kindsBy_6 : decode cX8_kindsBy 6 = .ok (.iload 5, 2) := by decide +kernel
theorem dX8_kindsBy_8 : decode cX8_kindsBy 8 = .ok (.iconst 5, 1) := by decide +kernel
theorem dX8_kindsBy_9 : decode cX8_kindsBy 9 = .ok (.if_icmp .gt 97, 3) := by decide +kernel
theorem dX8_kindsBy_12 : decode cX8_kindsBy 12 = .ok (.iconst 1, 1) := by decide +kernel
theorem dX8_kindsBy_13 : decode cX8_kindsBy 13 = .ok (.istore 6, 2) := by decide +kernel
theorem dX8_kindsBy_15 : decode cX8_kindsBy 15 = .ok (.iconst 0, 1) := by decide +kernel
theorem dX8_kindsBy_16 : decode cX8_kindsBy 16 = .ok (.istore 7, 2) := by decide +kernel
theorem dX8_kindsBy_18 : decode cX8_kindsBy 18 = .ok (.iload 7, 2) := by decide +kernel
theorem dX8_kindsBy_20 : decode cX8_kindsBy 20 = .ok (.iload_n 3, 1) := by decide +kernel
theorem dX8_kindsBy_21 : decode cX8_kindsBy 21 = .ok (.if_icmp .ge 61, 3) := by decide +kernel
theorem dX8_kindsBy_24 : decode cX8_kindsBy 24 = .ok (.iload 6, 2) := by decide +kernel
theorem dX8_kindsBy_26 : decode cX8_kindsBy 26 = .ok (.ifCond .eq 47, 3) := by decide +kernel
theorem dX8_kindsBy_29 : decode cX8_kindsBy 29 = .ok (.aload_n 0, 1) := by decide +kernel
theorem dX8_kindsBy_30 : decode cX8_kindsBy 30 = .ok (.getfield 23, 3) := by decide +kernel
theorem dX8_kindsBy_33 : decode cX8_kindsBy 33 = .ok (.iload_n 1, 1) := by decide +kernel
theorem dX8_kindsBy_34 : decode cX8_kindsBy 34 = .ok (.iload 5, 2) := by decide +kernel
theorem dX8_kindsBy_36 : decode cX8_kindsBy 36 = .ok (.aload_n 0, 1) := by decide +kernel
theorem dX8_kindsBy_37 : decode cX8_kindsBy 37 = .ok (.getfield 16, 3) := by decide +kernel
theorem dX8_kindsBy_40 : decode cX8_kindsBy 40 = .ok (.iload_n 2, 1) := by decide +kernel
theorem dX8_kindsBy_41 : decode cX8_kindsBy 41 = .ok (.iconst 2, 1) := by decide +kernel
theorem dX8_kindsBy_42 : decode cX8_kindsBy 42 = .ok (.iload 7, 2) := by decide +kernel
theorem dX8_kindsBy_44 : decode cX8_kindsBy 44 = .ok (.imul, 1) := by decide +kernel
theorem dX8_kindsBy_45 : decode cX8_kindsBy 45 = .ok (.iadd, 1) := by decide +kernel
theorem dX8_kindsBy_46 : decode cX8_kindsBy 46 = .ok (.laload, 1) := by decide +kernel
theorem dX8_kindsBy_47 : decode cX8_kindsBy 47 = .ok (.l2i, 1) := by decide +kernel
theorem dX8_kindsBy_48 : decode cX8_kindsBy 48 = .ok (.invokestatic 113, 3) := by decide +kernel
theorem dX8_kindsBy_51 : decode cX8_kindsBy 51 = .ok (.i2l, 1) := by decide +kernel
theorem dX8_kindsBy_52 : decode cX8_kindsBy 52 = .ok (.aload_n 0, 1) := by decide +kernel
theorem dX8_kindsBy_53 : decode cX8_kindsBy 53 = .ok (.getfield 16, 3) := by decide +kernel
theorem dX8_kindsBy_56 : decode cX8_kindsBy 56 = .ok (.iload_n 2, 1) := by decide +kernel
theorem dX8_kindsBy_57 : decode cX8_kindsBy 57 = .ok (.iconst 2, 1) := by decide +kernel
theorem dX8_kindsBy_58 : decode cX8_kindsBy 58 = .ok (.iload 7, 2) := by decide +kernel
theorem dX8_kindsBy_60 : decode cX8_kindsBy 60 = .ok (.imul, 1) := by decide +kernel
theorem dX8_kindsBy_61 : decode cX8_kindsBy 61 = .ok (.iadd, 1) := by decide +kernel
theorem dX8_kindsBy_62 : decode cX8_kindsBy 62 = .ok (.iconst 1, 1) := by decide +kernel
theorem dX8_kindsBy_63 : decode cX8_kindsBy 63 = .ok (.iadd, 1) := by decide +kernel
theorem dX8_kindsBy_64 : decode cX8_kindsBy 64 = .ok (.laload, 1) := by decide +kernel
theorem dX8_kindsBy_65 : decode cX8_kindsBy 65 = .ok (.lcmp, 1) := by decide +kernel
theorem dX8_kindsBy_66 : decode cX8_kindsBy 66 = .ok (.ifCond .ne 7, 3) := by decide +kernel
theorem dX8_kindsBy_69 : decode cX8_kindsBy 69 = .ok (.iconst 1, 1) := by decide +kernel
theorem dX8_kindsBy_70 : decode cX8_kindsBy 70 = .ok (.goto 4, 3) := by decide +kernel
theorem dX8_kindsBy_73 : decode cX8_kindsBy 73 = .ok (.iconst 0, 1) := by decide +kernel
theorem dX8_kindsBy_74 : decode cX8_kindsBy 74 = .ok (.istore 6, 2) := by decide +kernel
theorem dX8_kindsBy_76 : decode cX8_kindsBy 76 = .ok (.iinc 7 1, 3) := by decide +kernel
theorem dX8_kindsBy_79 : decode cX8_kindsBy 79 = .ok (.goto (-61), 3) := by decide +kernel
theorem dX8_kindsBy_82 : decode cX8_kindsBy 82 = .ok (.iload 4, 2) := by decide +kernel
theorem dX8_kindsBy_84 : decode cX8_kindsBy 84 = .ok (.iload 6, 2) := by decide +kernel
theorem dX8_kindsBy_86 : decode cX8_kindsBy 86 = .ok (.ifCond .eq 10, 3) := by decide +kernel
theorem dX8_kindsBy_89 : decode cX8_kindsBy 89 = .ok (.iconst 1, 1) := by decide +kernel
theorem dX8_kindsBy_90 : decode cX8_kindsBy 90 = .ok (.iload 5, 2) := by decide +kernel
theorem dX8_kindsBy_92 : decode cX8_kindsBy 92 = .ok (.ishl, 1) := by decide +kernel
theorem dX8_kindsBy_93 : decode cX8_kindsBy 93 = .ok (.goto 4, 3) := by decide +kernel
theorem dX8_kindsBy_96 : decode cX8_kindsBy 96 = .ok (.iconst 0, 1) := by decide +kernel
theorem dX8_kindsBy_97 : decode cX8_kindsBy 97 = .ok (.ior, 1) := by decide +kernel
theorem dX8_kindsBy_98 : decode cX8_kindsBy 98 = .ok (.istore 4, 2) := by decide +kernel
theorem dX8_kindsBy_100 : decode cX8_kindsBy 100 = .ok (.iinc 5 1, 3) := by decide +kernel
theorem dX8_kindsBy_103 : decode cX8_kindsBy 103 = .ok (.goto (-97), 3) := by decide +kernel
theorem dX8_kindsBy_106 : decode cX8_kindsBy 106 = .ok (.iload 4, 2) := by decide +kernel
theorem dX8_kindsBy_108 : decode cX8_kindsBy 108 = .ok (.ireturn, 1) := by decide +kernel
set_option maxRecDepth 20000 in
theorem ggX8_bestJudge_X8_has : GoodIn wsX8_bestJudge wsX8_has := goodIn_r _ [5] (by decide +kernel) (by decide +kernel)
set_option maxRecDepth 20000 in
theorem gX8_bestJudge_X8_has : GoodIn wsX8_bestJudge (va_wsS RX8 164 yX8_has wsX8_has) := goodIn_app (goodIn_of _ (by decide +kernel)) ggX8_bestJudge_X8_has
set_option maxRecDepth 20000 in
theorem ggX8_bestJudge_X8_namedBy : GoodIn wsX8_bestJudge wsX8_namedBy := goodIn_r _ [8, 9, 10, 4, 11] (by decide +kernel) (by decide +kernel)
set_option maxRecDepth 20000 in
theorem gX8_bestJudge_X8_namedBy : GoodIn wsX8_bestJudge (va_wsS RX8 113 yX8_namedBy wsX8_namedBy) := goodIn_app (goodIn_of _ (by decide +kernel)) ggX8_bestJudge_X8_namedBy
theorem dX8_bestJudge_0 : decode cX8_bestJudge 0 = .ok (.bipush (-4), 2) := by decide +kernel
theorem dX8_bestJudge_2 : decode cX8_bestJudge 2 = .ok (.istore_n 3, 1) := by decide +kernel
theorem dX8_bestJudge_3 : decode cX8_bestJudge 3 = .ok (.bipush 99, 2) := by decide +kernel
theorem dX8_bestJudge_5 : decode cX8_bestJudge 5 = .ok (.istore 4, 2) := by decide +kernel
theorem dX8_bestJudge_7 : decode cX8_bestJudge 7 = .ok (.iconst 0, 1) := by decide +kernel
theorem dX8_bestJudge_8 : decode cX8_bestJudge 8 = .ok (.istore 5, 2) := by decide +kernel
theorem dX8_bestJudge_10 : decode cX8_bestJudge 10 = .ok (.iload 5, 2) := by decide +kernel
theorem dX8_bestJudge_12 : decode cX8_bestJudge 12 = .ok (.aload_n 0, 1) := by decide +kernel
theorem dX8_bestJudge_13 : decode cX8_bestJudge 13 = .ok (.getfield 23, 3) := by decide +kernel
theorem dX8_bestJudge_16 : decode cX8_bestJudge 16 = .ok (.iconst 3, 1) := by decide +kernel
theorem dX8_bestJudge_17 : decode cX8_bestJudge 17 = .ok (.iaload, 1) := by decide +kernel
theorem dX8_bestJudge_18 : decode cX8_bestJudge 18 = .ok (.if_icmp .ge 136, 3) := by decide +kernel
theorem dX8_bestJudge_21 : decode cX8_bestJudge 21 = .ok (.iload_n 2, 1) := by decide +kernel
theorem dX8_bestJudge_22 : decode cX8_bestJudge 22 = .ok (.ifCond .eq 132, 3) := by decide +kernel
theorem dX8_bestJudge_25 : decode cX8_bestJudge 25 = .ok (.iconst 0, 1) := by decide +kernel
theorem dX8_bestJudge_26 : decode cX8_bestJudge 26 = .ok (.istore 6, 2) := by decide +kernel
theorem dX8_bestJudge_28 : decode cX8_bestJudge 28 = .ok (.iconst 0, 1) := by decide +kernel
theorem dX8_bestJudge_29 : decode cX8_bestJudge 29 = .ok (.istore 7, 2) := by decide +kernel
theorem dX8_bestJudge_31 : decode cX8_bestJudge 31 = .ok (.iload 7, 2) := by decide +kernel
theorem dX8_bestJudge_33 : decode cX8_bestJudge 33 = .ok (.aload_n 0, 1) := by decide +kernel
theorem dX8_bestJudge_34 : decode cX8_bestJudge 34 = .ok (.getfield 23, 3) := by decide +kernel
theorem dX8_bestJudge_37 : decode cX8_bestJudge 37 = .ok (.iconst 3, 1) := by decide +kernel
theorem dX8_bestJudge_38 : decode cX8_bestJudge 38 = .ok (.iaload, 1) := by decide +kernel
theorem dX8_bestJudge_39 : decode cX8_bestJudge 39 = .ok (.if_icmp .ge 79, 3) := by decide +kernel
theorem dX8_bestJudge_42 : decode cX8_bestJudge 42 = .ok (.iconst 0, 1) := by decide +kernel
theorem dX8_bestJudge_43 : decode cX8_bestJudge 43 = .ok (.istore 8, 2) := by decide +kernel
theorem dX8_bestJudge_45 : decode cX8_bestJudge 45 = .ok (.iconst 1, 1) := by decide +kernel
theorem dX8_bestJudge_46 : decode cX8_bestJudge 46 = .ok (.istore 9, 2) := by decide +kernel
theorem dX8_bestJudge_48 : decode cX8_bestJudge 48 = .ok (.iload 9, 2) := by decide +kernel
theorem dX8_bestJudge_50 : decode cX8_bestJudge 50 = .ok (.iconst 5, 1) := by decide +kernel
theorem dX8_bestJudge_51 : decode cX8_bestJudge 51 = .ok (.if_icmp .gt 45, 3) := by decide +kernel
theorem dX8_bestJudge_54 : decode cX8_bestJudge 54 = .ok (.iload 8, 2) := by decide +kernel
theorem dX8_bestJudge_56 : decode cX8_bestJudge 56 = .ok (.iload_n 2, 1) := by decide +kernel
theorem dX8_bestJudge_57 : decode cX8_bestJudge 57 = .ok (.iload 9, 2) := by decide +kernel
theorem dX8_bestJudge_59 : decode cX8_bestJudge 59 = .ok (.invokestatic 164, 3) := by decide +kernel
theorem dX8_bestJudge_62 : decode cX8_bestJudge 62 = .ok (.ifCond .eq 24, 3) := by decide +kernel
theorem dX8_bestJudge_65 : decode cX8_bestJudge 65 = .ok (.aload_n 0, 1) := by decide +kernel
theorem dX8_bestJudge_66 : decode cX8_bestJudge 66 = .ok (.getfield 23, 3) := by decide +kernel
theorem dX8_bestJudge_69 : decode cX8_bestJudge 69 = .ok (.iload_n 1, 1) := by decide +kernel
theorem dX8_bestJudge_70 : decode cX8_bestJudge 70 = .ok (.iload 9, 2) := by decide +kernel
theorem dX8_bestJudge_72 : decode cX8_bestJudge 72 = .ok (.iload 5, 2) := by decide +kernel
theorem dX8_bestJudge_74 : decode cX8_bestJudge 74 = .ok (.invokestatic 113, 3) := by decide +kernel
theorem dX8_bestJudge_77 : decode cX8_bestJudge 77 = .ok (.iload 7, 2) := by decide +kernel
theorem dX8_bestJudge_79 : decode cX8_bestJudge 79 = .ok (.if_icmp .ne 7, 3) := by decide +kernel
theorem dX8_bestJudge_82 : decode cX8_bestJudge 82 = .ok (.iconst 1, 1) := by decide +kernel
theorem dX8_bestJudge_83 : decode cX8_bestJudge 83 = .ok (.goto 4, 3) := by decide +kernel
theorem dX8_bestJudge_86 : decode cX8_bestJudge 86 = .ok (.iconst 0, 1) := by decide +kernel
theorem dX8_bestJudge_87 : decode cX8_bestJudge 87 = .ok (.iadd, 1) := by decide +kernel
theorem dX8_bestJudge_88 : decode cX8_bestJudge 88 = .ok (.istore 8, 2) := by decide +kernel
theorem dX8_bestJudge_90 : decode cX8_bestJudge 90 = .ok (.iinc 9 1, 3) := by decide +kernel
theorem dX8_bestJudge_93 : decode cX8_bestJudge 93 = .ok (.goto (-45), 3) := by decide +kernel
theorem dX8_bestJudge_96 : decode cX8_bestJudge 96 = .ok (.iload 8, 2) := by decide +kernel
theorem dX8_bestJudge_98 : decode cX8_bestJudge 98 = .ok (.iload 6, 2) := by decide +kernel
theorem dX8_bestJudge_100 : decode cX8_bestJudge 100 = .ok (.if_icmp .le 8, 3) := by decide +kernel
theorem dX8_bestJudge_103 : decode cX8_bestJudge 103 = .ok (.iload 8, 2) := by decide +kernel
theorem dX8_bestJudge_105 : decode cX8_bestJudge 105 = .ok (.goto 5, 3) := by decide +kernel
theorem dX8_bestJudge_108 : decode cX8_bestJudge 108 = .ok (.iload 6, 2) := by decide +kernel
theorem dX8_bestJudge_110 : decode cX8_bestJudge 110 = .ok (.istore 6, 2) := by decide +kernel
theorem dX8_bestJudge_112 : decode cX8_bestJudge 112 = .ok (.iinc 7 1, 3) := by decide +kernel
theorem dX8_bestJudge_115 : decode cX8_bestJudge 115 = .ok (.goto (-84), 3) := by decide +kernel
theorem dX8_bestJudge_118 : decode cX8_bestJudge 118 = .ok (.iload 6, 2) := by decide +kernel
theorem dX8_bestJudge_120 : decode cX8_bestJudge 120 = .ok (.iload 4, 2) := by decide +kernel
theorem dX8_bestJudge_122 : decode cX8_bestJudge 122 = .ok (.if_icmp .ge 8, 3) := by decide +kernel
theorem dX8_bestJudge_125 : decode cX8_bestJudge 125 = .ok (.iload 5, 2) := by decide +kernel
theorem dX8_bestJudge_127 : decode cX8_bestJudge 127 = .ok (.goto 4, 3) := by decide +kernel
theorem dX8_bestJudge_130 : decode cX8_bestJudge 130 = .ok (.iload_n 3, 1) := by decide +kernel
theorem dX8_bestJudge_131 : decode cX8_bestJudge 131 = .ok (.istore_n 3, 1) := by decide +kernel
theorem dX8_bestJudge_132 : decode cX8_bestJudge 132 = .ok (.iload 6, 2) := by decide +kernel
theorem dX8_bestJudge_134 : decode cX8_bestJudge 134 = .ok (.iload 4, 2) := by decide +kernel
theorem dX8_bestJudge_136 : decode cX8_bestJudge 136 = .ok (.if_icmp .ge 8, 3) := by decide +kernel
theorem dX8_bestJudge_139 : decode cX8_bestJudge 139 = .ok (.iload 6, 2) := by decide +kernel
theorem dX8_bestJudge_141 : decode cX8_bestJudge 141 = .ok (.goto 5, 3) := by decide +kernel
theorem dX8_bestJudge_144 : decode cX8_bestJudge 144 = .ok (.iload 4, 2) := by decide +kernel
theorem dX8_bestJudge_146 : decode cX8_bestJudge 146 = .ok (.istore 4, 2) := by decide +kernel
theorem dX8_bestJudge_148 : decode cX8_bestJudge 148 = .ok (.iinc 5 1, 3) := by decide +kernel
theorem dX8_bestJudge_151 : decode cX8_bestJudge 151 = .ok (.goto (-141), 3) := by decide +kernel
theorem dX8_bestJudge_154 : decode cX8_bestJudge 154 = .ok (.iload_n 3, 1) := by decide +kernel
theorem dX8_bestJudge_155 : decode cX8_bestJudge 155 = .ok (.ireturn, 1) := by decide +kernel
set_option maxRecDepth 20000 in
theorem ggX8_kinds_X8_isParty : GoodIn wsX8_kinds wsX8_isParty := goodIn_r _ [6, 1, 7, 8, 5, 9, 44, 45, 46, 47, 48, 49, 50, 51, 52, 53, 54, 55, 56, 57, 58, 59, 60, 61, 62, 63, 64, 65] (by decide +kernel) (by decide +kernel)
set_option maxRecDepth 20000 in
theorem gX8_kinds_X8_isParty : GoodIn wsX8_kinds (wsV RX8 110 RX8 yX8_isParty wsX8_isParty) := goodIn_app (goodIn_of _ (by decide +kernel)) ggX8_kinds_X8_isParty
set_option maxRecDepth 20000 in
theorem ggX8_kinds_X8_isSheet : GoodIn wsX8_kinds wsX8_isSheet := goodIn_r _ [12, 7, 8, 5, 9] (by decide +kernel) (by decide +kernel)
set_option maxRecDepth 20000 in
theorem gX8_kinds_X8_isSheet : GoodIn wsX8_kinds (va_wsS RX8 238 yX8_isSheet wsX8_isSheet) := goodIn_app (goodIn_of _ (by decide +kernel)) ggX8_kinds_X8_isSheet
set_option maxRecDepth 20000 in
theorem ggX8_kinds_X8_in : GoodIn wsX8_kinds wsX8_in := goodIn_r _ [9] (by decide +kernel) (by decide +kernel)
set_option maxRecDepth 20000 in
theorem gX8_kinds_X8_in : GoodIn wsX8_kinds (va_wsS RX8 60 yX8_in wsX8_in) := goodIn_app (goodIn_of _ (by decide +kernel)) ggX8_kinds_X8_in
set_option maxRecDepth 20000 in
theorem ggX8_kinds_X8_wrong : GoodIn wsX8_kinds wsX8_wrong := goodIn_r _ [16, 17, 18, 19, 20, 5, 21, 44, 45, 46, 47, 48, 49, 50, 51, 52, 53, 54, 55, 56, 57, 58, 59, 60, 61, 62, 63, 64, 65] (by decide +kernel) (by decide +kernel)
set_option maxRecDepth 20000 in
theorem gX8_kinds_X8_wrong : GoodIn wsX8_kinds (wsV RX8 243 RX8 yX8_wrong wsX8_wrong) := goodIn_app (goodIn_of _ (by decide +kernel)) ggX8_kinds_X8_wrong
set_option maxRecDepth 20000 in
theorem ggX8_kinds_X8_areBelow : GoodIn wsX8_kinds wsX8_areBelow := goodIn_r _ [25, 26, 44, 45, 46, 47, 48, 49, 50, 51, 52, 53, 54, 55, 56, 57, 58, 59, 60, 61, 62, 63, 64, 65] (by decide +kernel) (by decide +kernel)
set_option maxRecDepth 20000 in
theorem gX8_kinds_X8_areBelow : GoodIn wsX8_kinds (wsV RX8 254 RX8 yX8_areBelow wsX8_areBelow) := goodIn_app (goodIn_of _ (by decide +kernel)) ggX8_kinds_X8_areBelow
set_option maxRecDepth 20000 in
theorem ggX8_kinds_X8_kindsBy : GoodIn wsX8_kinds wsX8_kindsBy := goodIn_r _ [30, 1, 26, 31, 32, 5, 33, 34, 35, 36, 44, 45, 46, 47, 48, 49, 50, 51, 52, 53, 54, 55, 56, 57, 58, 59, 60, 61, 62, 63, 64, 65] (by decide +kernel) (by decide +kernel)
set_option maxRecDepth 20000 in
theorem gX8_kinds_X8_kindsBy : GoodIn wsX8_kinds (wsV RX8 264 RX8 yX8_kindsBy wsX8_kindsBy) := goodIn_app (goodIn_of _ (by decide +kernel)) ggX8_kinds_X8_kindsBy
set_option maxRecDepth 20000 in
theorem ggX8_kinds_X8_bestJudge : GoodIn wsX8_kinds wsX8_bestJudge := goodIn_r _ [40, 1, 41, 42, 5, 43, 31, 32, 33, 34, 35, 36, 44, 45, 46, 47, 48, 49, 50, 51, 52, 53, 54, 55, 56, 57, 58, 59, 60, 61, 62, 63, 64, 65] (by decide +kernel) (by decide +kernel)
set_option maxRecDepth 20000 in
theorem gX8_kinds_X8_bestJudge : GoodIn wsX8_kinds (wsV RX8 267 RX8 yX8_bestJudge wsX8_bestJudge) := goodIn_app (goodIn_of _ (by decide +kernel)) ggX8_kinds_X8_bestJudge
theorem dX8_kinds_0 : decode cX8_kinds 0 = .ok (.aload_n 0, 1) := by decide +kernel
theorem dX8_kinds_1 : decode cX8_kinds 1 = .ok (.iload_n 1, 1) := by decide +kernel
theorem dX8_kinds_2 : decode cX8_kinds 2 = .ok (.invokevirtual 110, 3) := by decide +kernel
theorem dX8_kinds_5 : decode cX8_kinds 5 = .ok (.ifCond .eq 40, 3) := by decide +kernel
theorem dX8_kinds_8 : decode cX8_kinds 8 = .ok (.iload_n 2, 1) := by decide +kernel
theorem dX8_kinds_9 : decode cX8_kinds 9 = .ok (.invokestatic 238, 3) := by decide +kernel
theorem dX8_kinds_12 : decode cX8_kinds 12 = .ok (.ifCond .eq 33, 3) := by decide +kernel
theorem dX8_kinds_15 : decode cX8_kinds 15 = .ok (.iload_n 3, 1) := by decide +kernel
theorem dX8_kinds_16 : decode cX8_kinds 16 = .ok (.iconst 0, 1) := by decide +kernel
theorem dX8_kinds_17 : decode cX8_kinds 17 = .ok (.iconst 3, 1) := by decide +kernel
theorem dX8_kinds_18 : decode cX8_kinds 18 = .ok (.invokestatic 60, 3) := by decide +kernel
theorem dX8_kinds_21 : decode cX8_kinds 21 = .ok (.ifCond .eq 24, 3) := by decide +kernel
theorem dX8_kinds_24 : decode cX8_kinds 24 = .ok (.iload 5, 2) := by decide +kernel
theorem dX8_kinds_26 : decode cX8_kinds 26 = .ok (.iconst 1, 1) := by decide +kernel
theorem dX8_kinds_27 : decode cX8_kinds 27 = .ok (.bipush 10, 2) := by decide +kernel
theorem dX8_kinds_29 : decode cX8_kinds 29 = .ok (.invokestatic 60, 3) := by decide +kernel
theorem dX8_kinds_32 : decode cX8_kinds 32 = .ok (.ifCond .eq 13, 3) := by decide +kernel
theorem dX8_kinds_35 : decode cX8_kinds 35 = .ok (.iload 6, 2) := by decide +kernel
theorem dX8_kinds_37 : decode cX8_kinds 37 = .ok (.iconst 0, 1) := by decide +kernel
theorem dX8_kinds_38 : decode cX8_kinds 38 = .ok (.iconst 1, 1) := by decide +kernel
theorem dX8_kinds_39 : decode cX8_kinds 39 = .ok (.invokestatic 60, 3) := by decide +kernel
theorem dX8_kinds_42 : decode cX8_kinds 42 = .ok (.ifCond .ne 5, 3) := by decide +kernel
theorem dX8_kinds_45 : decode cX8_kinds 45 = .ok (.iconst (-1), 1) := by decide +kernel
theorem dX8_kinds_46 : decode cX8_kinds 46 = .ok (.ireturn, 1) := by decide +kernel
theorem dX8_kinds_47 : decode cX8_kinds 47 = .ok (.aload_n 0, 1) := by decide +kernel
theorem dX8_kinds_48 : decode cX8_kinds 48 = .ok (.iload_n 2, 1) := by decide +kernel
theorem dX8_kinds_49 : decode cX8_kinds 49 = .ok (.iload_n 3, 1) := by decide +kernel
theorem dX8_kinds_50 : decode cX8_kinds 50 = .ok (.iload 4, 2) := by decide +kernel
theorem dX8_kinds_52 : decode cX8_kinds 52 = .ok (.iconst 2, 1) := by decide +kernel
theorem dX8_kinds_53 : decode cX8_kinds 53 = .ok (.iload 5, 2) := by decide +kernel
theorem dX8_kinds_55 : decode cX8_kinds 55 = .ok (.imul, 1) := by decide +kernel
theorem dX8_kinds_56 : decode cX8_kinds 56 = .ok (.invokevirtual 243, 3) := by decide +kernel
theorem dX8_kinds_59 : decode cX8_kinds 59 = .ok (.istore 7, 2) := by decide +kernel
theorem dX8_kinds_61 : decode cX8_kinds 61 = .ok (.iload 7, 2) := by decide +kernel
theorem dX8_kinds_63 : decode cX8_kinds 63 = .ok (.ifCond .eq 6, 3) := by decide +kernel
theorem dX8_kinds_66 : decode cX8_kinds 66 = .ok (.iload 7, 2) := by decide +kernel
theorem dX8_kinds_68 : decode cX8_kinds 68 = .ok (.ireturn, 1) := by decide +kernel
theorem dX8_kinds_69 : decode cX8_kinds 69 = .ok (.aload_n 0, 1) := by decide +kernel
theorem dX8_kinds_70 : decode cX8_kinds 70 = .ok (.bipush 24, 2) := by decide +kernel
theorem dX8_kinds_72 : decode cX8_kinds 72 = .ok (.iload_n 2, 1) := by decide +kernel
theorem dX8_kinds_73 : decode cX8_kinds 73 = .ok (.imul, 1) := by decide +kernel
theorem dX8_kinds_74 : decode cX8_kinds 74 = .ok (.iload 4, 2) := by decide +kernel
theorem dX8_kinds_76 : decode cX8_kinds 76 = .ok (.iadd, 1) := by decide +kernel
theorem dX8_kinds_77 : decode cX8_kinds 77 = .ok (.iload 5, 2) := by decide +kernel
theorem dX8_kinds_79 : decode cX8_kinds 79 = .ok (.aload_n 0, 1) := by decide +kernel
theorem dX8_kinds_80 : decode cX8_kinds 80 = .ok (.getfield 23, 3) := by decide +kernel
theorem dX8_kinds_83 : decode cX8_kinds 83 = .ok (.iconst 3, 1) := by decide +kernel
theorem dX8_kinds_84 : decode cX8_kinds 84 = .ok (.iaload, 1) := by decide +kernel
theorem dX8_kinds_85 : decode cX8_kinds 85 = .ok (.aload_n 0, 1) := by decide +kernel
theorem dX8_kinds_86 : decode cX8_kinds 86 = .ok (.getfield 23, 3) := by decide +kernel
theorem dX8_kinds_89 : decode cX8_kinds 89 = .ok (.iconst 3, 1) := by decide +kernel
theorem dX8_kinds_90 : decode cX8_kinds 90 = .ok (.iaload, 1) := by decide +kernel
theorem dX8_kinds_91 : decode cX8_kinds 91 = .ok (.invokevirtual 254, 3) := by decide +kernel
theorem dX8_kinds_94 : decode cX8_kinds 94 = .ok (.ifCond .ne 6, 3) := by decide +kernel
theorem dX8_kinds_97 : decode cX8_kinds 97 = .ok (.bipush (-2), 2) := by decide +kernel
theorem dX8_kinds_99 : decode cX8_kinds 99 = .ok (.ireturn, 1) := by decide +kernel
theorem dX8_kinds_100 : decode cX8_kinds 100 = .ok (.aload_n 0, 1) := by decide +kernel
theorem dX8_kinds_101 : decode cX8_kinds 101 = .ok (.iload_n 1, 1) := by decide +kernel
theorem dX8_kinds_102 : decode cX8_kinds 102 = .ok (.bipush 24, 2) := by decide +kernel
theorem dX8_kinds_104 : decode cX8_kinds 104 = .ok (.iload_n 2, 1) := by decide +kernel
theorem dX8_kinds_105 : decode cX8_kinds 105 = .ok (.imul, 1) := by decide +kernel
theorem dX8_kinds_106 : decode cX8_kinds 106 = .ok (.iload 4, 2) := by decide +kernel
theorem dX8_kinds_108 : decode cX8_kinds 108 = .ok (.iadd, 1) := by decide +kernel
theorem dX8_kinds_109 : decode cX8_kinds 109 = .ok (.iload 5, 2) := by decide +kernel
theorem dX8_kinds_111 : decode cX8_kinds 111 = .ok (.invokevirtual 264, 3) := by decide +kernel
theorem dX8_kinds_114 : decode cX8_kinds 114 = .ok (.istore 8, 2) := by decide +kernel
theorem dX8_kinds_116 : decode cX8_kinds 116 = .ok (.iload 6, 2) := by decide +kernel
theorem dX8_kinds_118 : decode cX8_kinds 118 = .ok (.ifCond .ne 8, 3) := by decide +kernel
theorem dX8_kinds_121 : decode cX8_kinds 121 = .ok (.iload 8, 2) := by decide +kernel
theorem dX8_kinds_123 : decode cX8_kinds 123 = .ok (.goto 10, 3) := by decide +kernel
theorem dX8_kinds_126 : decode cX8_kinds 126 = .ok (.aload_n 0, 1) := by decide +kernel
theorem dX8_kinds_127 : decode cX8_kinds 127 = .ok (.iload_n 1, 1) := by decide +kernel
theorem dX8_kinds_128 : decode cX8_kinds 128 = .ok (.iload 8, 2) := by decide +kernel
theorem dX8_kinds_130 : decode cX8_kinds 130 = .ok (.invokevirtual 267, 3) := by decide +kernel
theorem dX8_kinds_133 : decode cX8_kinds 133 = .ok (.ireturn, 1) := by decide +kernel
set_option maxRecDepth 20000 in
theorem ggX8_justOnes_X8_isJust : GoodIn wsX8_justOnes wsX8_isJust := goodIn_r _ [5] (by decide +kernel) (by decide +kernel)
set_option maxRecDepth 20000 in
theorem gX8_justOnes_X8_isJust : GoodIn wsX8_justOnes (va_wsS RX8 181 yX8_isJust wsX8_isJust) := goodIn_app (goodIn_of _ (by decide +kernel)) ggX8_justOnes_X8_isJust
theorem dX8_justOnes_0 : decode cX8_justOnes 0 = .ok (.iconst 0, 1) := by decide +kernel
theorem dX8_justOnes_1 : decode cX8_justOnes 1 = .ok (.istore_n 1, 1) := by decide +kernel
theorem dX8_justOnes_2 : decode cX8_justOnes 2 = .ok (.iconst 0, 1) := by decide +kernel
theorem dX8_justOnes_3 : decode cX8_justOnes 3 = .ok (.istore_n 2, 1) := by decide +kernel
theorem dX8_justOnes_4 : decode cX8_justOnes 4 = .ok (.iload_n 2, 1) := by decide +kernel
theorem dX8_justOnes_5 : decode cX8_justOnes 5 = .ok (.aload_n 0, 1) := by decide +kernel
theorem dX8_justOnes_6 : decode cX8_justOnes 6 = .ok (.getfield 23, 3) := by decide +kernel
theorem dX8_justOnes_9 : decode cX8_justOnes 9 = .ok (.iconst 0, 1) := by decide +kernel
theorem dX8_justOnes_10 : decode cX8_justOnes 10 = .ok (.iaload, 1) := by decide +kernel
theorem dX8_justOnes_11 : decode cX8_justOnes 11 = .ok (.if_icmp .ge 28, 3) := by decide +kernel
theorem dX8_justOnes_14 : decode cX8_justOnes 14 = .ok (.iload_n 1, 1) := by decide +kernel
theorem dX8_justOnes_15 : decode cX8_justOnes 15 = .ok (.aload_n 0, 1) := by decide +kernel
theorem dX8_justOnes_16 : decode cX8_justOnes 16 = .ok (.getfield 23, 3) := by decide +kernel
theorem dX8_justOnes_19 : decode cX8_justOnes 19 = .ok (.iload_n 2, 1) := by decide +kernel
theorem dX8_justOnes_20 : decode cX8_justOnes 20 = .ok (.invokestatic 181, 3) := by decide +kernel
theorem dX8_justOnes_23 : decode cX8_justOnes 23 = .ok (.ifCond .eq 7, 3) := by decide +kernel
theorem dX8_justOnes_26 : decode cX8_justOnes 26 = .ok (.iconst 1, 1) := by decide +kernel
theorem dX8_justOnes_27 : decode cX8_justOnes 27 = .ok (.goto 4, 3) := by decide +kernel
theorem dX8_justOnes_30 : decode cX8_justOnes 30 = .ok (.iconst 0, 1) := by decide +kernel
theorem dX8_justOnes_31 : decode cX8_justOnes 31 = .ok (.iadd, 1) := by decide +kernel
theorem dX8_justOnes_32 : decode cX8_justOnes 32 = .ok (.istore_n 1, 1) := by decide +kernel
theorem dX8_justOnes_33 : decode cX8_justOnes 33 = .ok (.iinc 2 1, 3) := by decide +kernel
theorem dX8_justOnes_36 : decode cX8_justOnes 36 = .ok (.goto (-32), 3) := by decide +kernel
theorem dX8_justOnes_39 : decode cX8_justOnes 39 = .ok (.iload_n 1, 1) := by decide +kernel
theorem dX8_justOnes_40 : decode cX8_justOnes 40 = .ok (.ireturn, 1) := by decide +kernel
set_option maxRecDepth 20000 in
theorem ggX8_count_X8_griefs : GoodIn wsX8_count wsX8_griefs := goodIn_r _ [7] (by decide +kernel) (by decide +kernel)
set_option maxRecDepth 20000 in
theorem gX8_count_X8_griefs : GoodIn wsX8_count (va_wsS RX8 231 yX8_griefs wsX8_griefs) := goodIn_app (goodIn_of _ (by decide +kernel)) ggX8_count_X8_griefs
set_option maxRecDepth 20000 in
theorem ggX8_count_X8_justOnes : GoodIn wsX8_count wsX8_justOnes := goodIn_r _ [11, 1, 12, 13, 6, 14, 15, 16, 17, 18, 19, 20, 21, 22, 23, 24, 25, 26, 27, 28, 29, 30, 31, 32, 33, 34, 35, 36] (by decide +kernel) (by decide +kernel)
set_option maxRecDepth 20000 in
theorem gX8_count_X8_justOnes : GoodIn wsX8_count (wsV RX8 270 RX8 yX8_justOnes wsX8_justOnes) := goodIn_app (goodIn_of _ (by decide +kernel)) ggX8_count_X8_justOnes
theorem dX8_count_0 : decode cX8_count 0 = .ok (.iload_n 1, 1) := by decide +kernel
theorem dX8_count_1 : decode cX8_count 1 = .ok (.tableswitch 109 0 8 #[51, 58, 65, 72, 79, 86, 94, 99, 104], 51) := by decide +kernel
theorem dX8_count_52 : decode cX8_count 52 = .ok (.aload_n 0, 1) := by decide +kernel
theorem dX8_count_53 : decode cX8_count 53 = .ok (.getfield 23, 3) := by decide +kernel
theorem dX8_count_56 : decode cX8_count 56 = .ok (.iconst 2, 1) := by decide +kernel
theorem dX8_count_57 : decode cX8_count 57 = .ok (.iaload, 1) := by decide +kernel
theorem dX8_count_58 : decode cX8_count 58 = .ok (.ireturn, 1) := by decide +kernel
theorem dX8_count_59 : decode cX8_count 59 = .ok (.aload_n 0, 1) := by decide +kernel
theorem dX8_count_60 : decode cX8_count 60 = .ok (.getfield 23, 3) := by decide +kernel
theorem dX8_count_63 : decode cX8_count 63 = .ok (.iconst 3, 1) := by decide +kernel
theorem dX8_count_64 : decode cX8_count 64 = .ok (.iaload, 1) := by decide +kernel
theorem dX8_count_65 : decode cX8_count 65 = .ok (.ireturn, 1) := by decide +kernel
theorem dX8_count_66 : decode cX8_count 66 = .ok (.aload_n 0, 1) := by decide +kernel
theorem dX8_count_67 : decode cX8_count 67 = .ok (.getfield 23, 3) := by decide +kernel
theorem dX8_count_70 : decode cX8_count 70 = .ok (.iconst 4, 1) := by decide +kernel
theorem dX8_count_71 : decode cX8_count 71 = .ok (.iaload, 1) := by decide +kernel
theorem dX8_count_72 : decode cX8_count 72 = .ok (.ireturn, 1) := by decide +kernel
theorem dX8_count_73 : decode cX8_count 73 = .ok (.aload_n 0, 1) := by decide +kernel
theorem dX8_count_74 : decode cX8_count 74 = .ok (.getfield 23, 3) := by decide +kernel
theorem dX8_count_77 : decode cX8_count 77 = .ok (.iconst 0, 1) := by decide +kernel
theorem dX8_count_78 : decode cX8_count 78 = .ok (.iaload, 1) := by decide +kernel
theorem dX8_count_79 : decode cX8_count 79 = .ok (.ireturn, 1) := by decide +kernel
theorem dX8_count_80 : decode cX8_count 80 = .ok (.aload_n 0, 1) := by decide +kernel
theorem dX8_count_81 : decode cX8_count 81 = .ok (.getfield 23, 3) := by decide +kernel
theorem dX8_count_84 : decode cX8_count 84 = .ok (.iconst 1, 1) := by decide +kernel
theorem dX8_count_85 : decode cX8_count 85 = .ok (.iaload, 1) := by decide +kernel
theorem dX8_count_86 : decode cX8_count 86 = .ok (.ireturn, 1) := by decide +kernel
theorem dX8_count_87 : decode cX8_count 87 = .ok (.aload_n 0, 1) := by decide +kernel
theorem dX8_count_88 : decode cX8_count 88 = .ok (.getfield 23, 3) := by decide +kernel
theorem dX8_count_91 : decode cX8_count 91 = .ok (.invokestatic 231, 3) := by decide +kernel
theorem dX8_count_94 : decode cX8_count 94 = .ok (.ireturn, 1) := by decide +kernel
theorem dX8_count_95 : decode cX8_count 95 = .ok (.aload_n 0, 1) := by decide +kernel
theorem dX8_count_96 : decode cX8_count 96 = .ok (.invokevirtual 270, 3) := by decide +kernel
theorem dX8_count_99 : decode cX8_count 99 = .ok (.ireturn, 1) := by decide +kernel
theorem dX8_count_100 : decode cX8_count 100 = .ok (.aload_n 0, 1) := by decide +kernel
theorem dX8_count_101 : decode cX8_count 101 = .ok (.getfield 103, 3) := by decide +kernel
theorem dX8_count_104 : decode cX8_count 104 = .ok (.ireturn, 1) := by decide +kernel
theorem dX8_count_105 : decode cX8_count 105 = .ok (.aload_n 0, 1) := by decide +kernel
theorem dX8_count_106 : decode cX8_count 106 = .ok (.getfield 64, 3) := by decide +kernel
theorem dX8_count_109 : decode cX8_count 109 = .ok (.ireturn, 1) := by decide +kernel
theorem dX8_count_110 : decode cX8_count 110 = .ok (.iconst (-1), 1) := by decide +kernel
theorem dX8_count_111 : decode cX8_count 111 = .ok (.ireturn, 1) := by decide +kernel
theorem dJ6_bitCount_0f7a4_0 : decode cJ6_bitCount_0f7a4 0 = .ok (.iload_n 0, 1) := by decide +kernel
theorem dJ6_bitCount_0f7a4_1 : decode cJ6_bitCount_0f7a4 1 = .ok (.iload_n 0, 1) := by decide +kernel
theorem dJ6_bitCount_0f7a4_2 : decode cJ6_bitCount_0f7a4 2 = .ok (.iconst 1, 1) := by decide +kernel
theorem dJ6_bitCount_0f7a4_3 : decode cJ6_bitCount_0f7a4 3 = .ok (.iushr, 1) := by decide +kernel
theorem dJ6_bitCount_0f7a4_4 : decode cJ6_bitCount_0f7a4 4 = .ok (.ldc_w 265, 3) := by decide +kernel
theorem dJ6_bitCount_0f7a4_7 : decode cJ6_bitCount_0f7a4 7 = .ok (.iand, 1) := by decide +kernel
theorem dJ6_bitCount_0f7a4_8 : decode cJ6_bitCount_0f7a4 8 = .ok (.isub, 1) := by decide +kernel
theorem dJ6_bitCount_0f7a4_9 : decode cJ6_bitCount_0f7a4 9 = .ok (.istore_n 0, 1) := by decide +kernel
theorem dJ6_bitCount_0f7a4_10 : decode cJ6_bitCount_0f7a4 10 = .ok (.iload_n 0, 1) := by decide +kernel
theorem dJ6_bitCount_0f7a4_11 : decode cJ6_bitCount_0f7a4 11 = .ok (.ldc_w 266, 3) := by decide +kernel
theorem dJ6_bitCount_0f7a4_14 : decode cJ6_bitCount_0f7a4 14 = .ok (.iand, 1) := by decide +kernel
theorem dJ6_bitCount_0f7a4_15 : decode cJ6_bitCount_0f7a4 15 = .ok (.iload_n 0, 1) := by decide +kernel
theorem dJ6_bitCount_0f7a4_16 : decode cJ6_bitCount_0f7a4 16 = .ok (.iconst 2, 1) := by decide +kernel
theorem dJ6_bitCount_0f7a4_17 : decode cJ6_bitCount_0f7a4 17 = .ok (.iushr, 1) := by decide +kernel
theorem dJ6_bitCount_0f7a4_18 : decode cJ6_bitCount_0f7a4 18 = .ok (.ldc_w 266, 3) := by decide +kernel
theorem dJ6_bitCount_0f7a4_21 : decode cJ6_bitCount_0f7a4 21 = .ok (.iand, 1) := by decide +kernel
theorem dJ6_bitCount_0f7a4_22 : decode cJ6_bitCount_0f7a4 22 = .ok (.iadd, 1) := by decide +kernel
theorem dJ6_bitCount_0f7a4_23 : decode cJ6_bitCount_0f7a4 23 = .ok (.istore_n 0, 1) := by decide +kernel
theorem dJ6_bitCount_0f7a4_24 : decode cJ6_bitCount_0f7a4 24 = .ok (.iload_n 0, 1) := by decide +kernel
theorem dJ6_bitCount_0f7a4_25 : decode cJ6_bitCount_0f7a4 25 = .ok (.iload_n 0, 1) := by decide +kernel
theorem dJ6_bitCount_0f7a4_26 : decode cJ6_bitCount_0f7a4 26 = .ok (.iconst 4, 1) := by decide +kernel
theorem dJ6_bitCount_0f7a4_27 : decode cJ6_bitCount_0f7a4 27 = .ok (.iushr, 1) := by decide +kernel
theorem dJ6_bitCount_0f7a4_28 : decode cJ6_bitCount_0f7a4 28 = .ok (.iadd, 1) := by decide +kernel
theorem dJ6_bitCount_0f7a4_29 : decode cJ6_bitCount_0f7a4 29 = .ok (.ldc_w 267, 3) := by decide +kernel
theorem dJ6_bitCount_0f7a4_32 : decode cJ6_bitCount_0f7a4 32 = .ok (.iand, 1) := by decide +kernel
theorem dJ6_bitCount_0f7a4_33 : decode cJ6_bitCount_0f7a4 33 = .ok (.istore_n 0, 1) := by decide +kernel
theorem dJ6_bitCount_0f7a4_34 : decode cJ6_bitCount_0f7a4 34 = .ok (.iload_n 0, 1) := by decide +kernel
theorem dJ6_bitCount_0f7a4_35 : decode cJ6_bitCount_0f7a4 35 = .ok (.iload_n 0, 1) := by decide +kernel
theorem dJ6_bitCount_0f7a4_36 : decode cJ6_bitCount_0f7a4 36 = .ok (.bipush 8, 2) := by decide +kernel
theorem dJ6_bitCount_0f7a4_38 : decode cJ6_bitCount_0f7a4 38 = .ok (.iushr, 1) := by decide +kernel
theorem dJ6_bitCount_0f7a4_39 : decode cJ6_bitCount_0f7a4 39 = .ok (.iadd, 1) := by decide +kernel
theorem dJ6_bitCount_0f7a4_40 : decode cJ6_bitCount_0f7a4 40 = .ok (.istore_n 0, 1) := by decide +kernel
theorem dJ6_bitCount_0f7a4_41 : decode cJ6_bitCount_0f7a4 41 = .ok (.iload_n 0, 1) := by decide +kernel
theorem dJ6_bitCount_0f7a4_42 : decode cJ6_bitCount_0f7a4 42 = .ok (.iload_n 0, 1) := by decide +kernel
theorem dJ6_bitCount_0f7a4_43 : decode cJ6_bitCount_0f7a4 43 = .ok (.bipush 16, 2) := by decide +kernel
theorem dJ6_bitCount_0f7a4_45 : decode cJ6_bitCount_0f7a4 45 = .ok (.iushr, 1) := by decide +kernel
theorem dJ6_bitCount_0f7a4_46 : decode cJ6_bitCount_0f7a4 46 = .ok (.iadd, 1) := by decide +kernel
theorem dJ6_bitCount_0f7a4_47 : decode cJ6_bitCount_0f7a4 47 = .ok (.istore_n 0, 1) := by decide +kernel
theorem dJ6_bitCount_0f7a4_48 : decode cJ6_bitCount_0f7a4 48 = .ok (.iload_n 0, 1) := by decide +kernel
theorem dJ6_bitCount_0f7a4_49 : decode cJ6_bitCount_0f7a4 49 = .ok (.bipush 63, 2) := by decide +kernel
theorem dJ6_bitCount_0f7a4_51 : decode cJ6_bitCount_0f7a4 51 = .ok (.iand, 1) := by decide +kernel
theorem dJ6_bitCount_0f7a4_52 : decode cJ6_bitCount_0f7a4 52 = .ok (.ireturn, 1) := by decide +kernel
theorem dJ9_max_7cf53_0 : decode cJ9_max_7cf53 0 = .ok (.iload_n 0, 1) := by decide +kernel
theorem dJ9_max_7cf53_1 : decode cJ9_max_7cf53 1 = .ok (.iload_n 1, 1) := by decide +kernel
theorem dJ9_max_7cf53_2 : decode cJ9_max_7cf53 2 = .ok (.if_icmp .lt 7, 3) := by decide +kernel
theorem dJ9_max_7cf53_5 : decode cJ9_max_7cf53 5 = .ok (.iload_n 0, 1) := by decide +kernel
theorem dJ9_max_7cf53_6 : decode cJ9_max_7cf53 6 = .ok (.goto 4, 3) := by decide +kernel
theorem dJ9_max_7cf53_9 : decode cJ9_max_7cf53 9 = .ok (.iload_n 1, 1) := by decide +kernel
theorem dJ9_max_7cf53_10 : decode cJ9_max_7cf53 10 = .ok (.ireturn, 1) := by decide +kernel
theorem dJ9_min_7cf53_0 : decode cJ9_min_7cf53 0 = .ok (.iload_n 0, 1) := by decide +kernel
theorem dJ9_min_7cf53_1 : decode cJ9_min_7cf53 1 = .ok (.iload_n 1, 1) := by decide +kernel
theorem dJ9_min_7cf53_2 : decode cJ9_min_7cf53 2 = .ok (.if_icmp .gt 7, 3) := by decide +kernel
theorem dJ9_min_7cf53_5 : decode cJ9_min_7cf53 5 = .ok (.iload_n 0, 1) := by decide +kernel
theorem dJ9_min_7cf53_6 : decode cJ9_min_7cf53 6 = .ok (.goto 4, 3) := by decide +kernel
theorem dJ9_min_7cf53_9 : decode cJ9_min_7cf53 9 = .ok (.iload_n 1, 1) := by decide +kernel
theorem dJ9_min_7cf53_10 : decode cJ9_min_7cf53 10 = .ok (.ireturn, 1) := by decide +kernel
theorem dJ7_fill_d0a16_0 : decode cJ7_fill_d0a16 0 = .ok (.iconst 0, 1) := by decide +kernel
theorem dJ7_fill_d0a16_1 : decode cJ7_fill_d0a16 1 = .ok (.istore_n 3, 1) := by decide +kernel
theorem dJ7_fill_d0a16_2 : decode cJ7_fill_d0a16 2 = .ok (.aload_n 0, 1) := by decide +kernel
theorem dJ7_fill_d0a16_3 : decode cJ7_fill_d0a16 3 = .ok (.arraylength, 1) := by decide +kernel
theorem dJ7_fill_d0a16_4 : decode cJ7_fill_d0a16 4 = .ok (.istore 4, 2) := by decide +kernel
theorem dJ7_fill_d0a16_6 : decode cJ7_fill_d0a16 6 = .ok (.iload_n 3, 1) := by decide +kernel
theorem dJ7_fill_d0a16_7 : decode cJ7_fill_d0a16 7 = .ok (.iload 4, 2) := by decide +kernel
theorem dJ7_fill_d0a16_9 : decode cJ7_fill_d0a16 9 = .ok (.if_icmp .ge 13, 3) := by decide +kernel
theorem dJ7_fill_d0a16_12 : decode cJ7_fill_d0a16 12 = .ok (.aload_n 0, 1) := by decide +kernel
theorem dJ7_fill_d0a16_13 : decode cJ7_fill_d0a16 13 = .ok (.iload_n 3, 1) := by decide +kernel
theorem dJ7_fill_d0a16_14 : decode cJ7_fill_d0a16 14 = .ok (.lload_n 1, 1) := by decide +kernel
theorem dJ7_fill_d0a16_15 : decode cJ7_fill_d0a16 15 = .ok (.lastore, 1) := by decide +kernel
theorem dJ7_fill_d0a16_16 : decode cJ7_fill_d0a16 16 = .ok (.iinc 3 1, 3) := by decide +kernel
theorem dJ7_fill_d0a16_19 : decode cJ7_fill_d0a16 19 = .ok (.goto (-13), 3) := by decide +kernel
theorem dJ7_fill_d0a16_22 : decode cJ7_fill_d0a16 22 = .ok (.return_, 1) := by decide +kernel
theorem dJ7_fill_53178_0 : decode cJ7_fill_53178 0 = .ok (.iconst 0, 1) := by decide +kernel
theorem dJ7_fill_53178_1 : decode cJ7_fill_53178 1 = .ok (.istore_n 2, 1) := by decide +kernel
theorem dJ7_fill_53178_2 : decode cJ7_fill_53178 2 = .ok (.aload_n 0, 1) := by decide +kernel
theorem dJ7_fill_53178_3 : decode cJ7_fill_53178 3 = .ok (.arraylength, 1) := by decide +kernel
theorem dJ7_fill_53178_4 : decode cJ7_fill_53178 4 = .ok (.istore_n 3, 1) := by decide +kernel
theorem dJ7_fill_53178_5 : decode cJ7_fill_53178 5 = .ok (.iload_n 2, 1) := by decide +kernel
theorem dJ7_fill_53178_6 : decode cJ7_fill_53178 6 = .ok (.iload_n 3, 1) := by decide +kernel
theorem dJ7_fill_53178_7 : decode cJ7_fill_53178 7 = .ok (.if_icmp .ge 13, 3) := by decide +kernel
theorem dJ7_fill_53178_10 : decode cJ7_fill_53178 10 = .ok (.aload_n 0, 1) := by decide +kernel
theorem dJ7_fill_53178_11 : decode cJ7_fill_53178 11 = .ok (.iload_n 2, 1) := by decide +kernel
theorem dJ7_fill_53178_12 : decode cJ7_fill_53178 12 = .ok (.iload_n 1, 1) := by decide +kernel
theorem dJ7_fill_53178_13 : decode cJ7_fill_53178 13 = .ok (.iastore, 1) := by decide +kernel
theorem dJ7_fill_53178_14 : decode cJ7_fill_53178 14 = .ok (.iinc 2 1, 3) := by decide +kernel
theorem dJ7_fill_53178_17 : decode cJ7_fill_53178 17 = .ok (.goto (-12), 3) := by decide +kernel
theorem dJ7_fill_53178_20 : decode cJ7_fill_53178 20 = .ok (.return_, 1) := by decide +kernel
set_option maxRecDepth 20000 in
theorem ggL_law_X7_init : GoodIn wsL_law wsX7_init := goodIn_r _ [9, 10, 11, 12, 13, 14, 15, 16, 17, 18, 19, 20, 21, 22, 23, 24, 25, 26, 27, 28, 29, 30, 31, 32, 33, 34, 35, 36, 37, 38, 39, 40, 41, 42, 43, 44, 45, 46, 47, 48, 49, 50, 51, 52, 53, 54, 55, 56, 57, 58, 59, 60, 61, 62, 63, 64, 65, 66, 67, 68, 69, 70, 71, 72, 73, 74, 75, 76, 77, 78, 79, 80, 81, 82, 83, 84, 85, 86, 87, 88, 89, 90, 91, 92, 93, 94, 95, 96, 97, 98, 99, 100, 101, 102, 103, 104, 105, 106, 107, 1050, 1051, 1052, 1020, 1021, 1022, 1023, 1024, 1025, 1026, 1027, 1053, 1054, 1055, 1056, 1057, 1058, 1059, 1060, 1061, 1062, 1063, 1064, 1065, 1066, 1067, 1068, 1069, 1070, 1071, 1072, 1073, 1074, 1075, 1076, 1077, 1078, 1079, 1080, 1081, 1082, 1083, 1084, 1085, 1086, 1087, 1088, 1089, 1090, 1091] (by decide +kernel) (by decide +kernel)
set_option maxRecDepth 20000 in
theorem gL_law_X7_init : GoodIn wsL_law (wsX7_init) := ggL_law_X7_init
set_option maxRecDepth 20000 in
theorem ggL_law_X8_init : GoodIn wsL_law wsX8_init := goodIn_r _ [110, 111, 11, 12, 42, 112, 113, 103, 114, 115, 116, 117, 118, 119, 120, 121, 122, 123, 124, 125, 126, 127, 128, 1028, 1029, 1030, 1031, 1032, 1033, 1034, 1035, 1036, 1037, 1038, 1039, 1040, 1041, 1042, 1043, 1044, 1045, 1046, 1047, 1048, 1049] (by decide +kernel) (by decide +kernel)
set_option maxRecDepth 20000 in
theorem gL_law_X8_init : GoodIn wsL_law (wsX8_init) := ggL_law_X8_init
set_option maxRecDepth 20000 in
theorem ggL_law_X7_feed : GoodIn wsL_law wsX7_feed := goodIn_r _ [132, 16, 133, 134, 135, 136, 15, 137, 44, 43, 1020, 1021, 1022, 1023, 1024, 1025, 1026, 1027, 1050, 1051, 1052] (by decide +kernel) (by decide +kernel)
set_option maxRecDepth 20000 in
theorem gL_law_X7_feed : GoodIn wsL_law (wsV RL 13 RX7 yX7_feed wsX7_feed) := goodIn_app (goodIn_of _ (by decide +kernel)) ggL_law_X7_feed
set_option maxRecDepth 20000 in
theorem ggL_law_X8_feed : GoodIn wsL_law wsX8_feed := goodIn_r _ [141, 142, 115, 143, 144, 5, 145, 1028, 1029, 1030, 1031, 1032, 1033, 1034, 1035, 1036, 1037, 1038, 1039, 1040, 1041, 1042, 1043, 1044, 1045, 1046, 1047, 1048, 1049] (by decide +kernel) (by decide +kernel)
set_option maxRecDepth 20000 in
theorem gL_law_X8_feed : GoodIn wsL_law (wsV RL 17 RX8 yX8_feed wsX8_feed) := goodIn_app (goodIn_of _ (by decide +kernel)) ggL_law_X8_feed
set_option maxRecDepth 20000 in
theorem ggL_law_X7_circuit : GoodIn wsL_law wsX7_circuit := goodIn_r _ [149, 16, 38, 150, 133, 37, 20, 151, 152, 153, 154, 155, 15, 156, 45, 44, 157, 158, 159, 32, 160, 95, 96, 97, 98, 99, 161, 162, 163, 164, 165, 166, 167, 168, 43, 169, 170, 171, 172, 173, 174, 175, 176, 177, 178, 179, 180, 181, 182, 183, 184, 185, 186, 187, 188, 189, 190, 191, 192, 193, 194, 195, 196, 197, 198, 199, 200, 201, 202, 203, 204, 205, 206, 207, 208, 209, 1020, 1021, 1022, 1023, 1024, 1025, 1026, 1027, 1050, 1051, 1052, 1053, 1054, 1055, 1068, 1069, 1070, 1071, 1072, 1073, 1074, 1075, 1076, 1077, 1078, 1079, 1080, 1081] (by decide +kernel) (by decide +kernel)
set_option maxRecDepth 20000 in
theorem gL_law_X7_circuit : GoodIn wsL_law (wsV RL 18 RX7 yX7_circuit wsX7_circuit) := goodIn_app (goodIn_of _ (by decide +kernel)) ggL_law_X7_circuit
set_option maxRecDepth 20000 in
theorem ggL_law_X8_circuit : GoodIn wsL_law wsX8_circuit := goodIn_r _ [213, 142, 214, 117, 116, 215, 216, 217, 218, 5, 219, 220, 221, 222, 223, 224, 225, 226, 227, 115, 228, 229, 230, 231, 232, 233, 234, 235, 236, 237, 238, 143, 144, 145, 239, 240, 241, 242, 243, 244, 245, 246, 247, 248, 249, 1028, 1029, 1030, 1031, 1032, 1033, 1034, 1035, 1036, 1037, 1038, 1039, 1040, 1041, 1042, 1043, 1044, 1045, 1046, 1047, 1048, 1049] (by decide +kernel) (by decide +kernel)
set_option maxRecDepth 20000 in
theorem gL_law_X8_circuit : GoodIn wsL_law (wsV RL 22 RX8 yX8_circuit wsX8_circuit) := goodIn_app (goodIn_of _ (by decide +kernel)) ggL_law_X8_circuit
set_option maxRecDepth 20000 in
theorem ggL_law_X7_party : GoodIn wsL_law wsX7_party := goodIn_r _ [253, 37, 254, 255, 256, 257, 258, 259, 260, 32, 261, 95, 262, 263, 264, 265, 86, 266, 267, 268, 269, 96, 270, 271, 272, 273, 274, 275, 276, 277, 89, 90, 1020, 1021, 1022, 1023, 1024, 1025, 1026, 1027, 1068, 1069, 1070, 1071, 1072, 1073, 1074, 1075, 1076, 1077, 1078, 1079, 1080, 1081] (by decide +kernel) (by decide +kernel)
set_option maxRecDepth 20000 in
theorem gL_law_X7_party : GoodIn wsL_law (wsV RL 23 RX7 yX7_party wsX7_party) := goodIn_app (goodIn_of _ (by decide +kernel)) ggL_law_X7_party
set_option maxRecDepth 20000 in
theorem ggL_law_X8_party : GoodIn wsL_law wsX8_party := goodIn_r _ [281, 116, 282, 283, 284, 5, 285, 143, 144, 145, 286, 287, 288, 289, 290, 291, 1028, 1029, 1030, 1031, 1032, 1033, 1034, 1035, 1036, 1037, 1038, 1039, 1040, 1041, 1042, 1043, 1044, 1045, 1046, 1047, 1048, 1049] (by decide +kernel) (by decide +kernel)
set_option maxRecDepth 20000 in
theorem gL_law_X8_party : GoodIn wsL_law (wsV RL 27 RX8 yX8_party wsX8_party) := goodIn_app (goodIn_of _ (by decide +kernel)) ggL_law_X8_party
set_option maxRecDepth 20000 in
theorem ggL_law_X7_as : GoodIn wsL_law wsX7_as := goodIn_r _ [295, 37, 254, 258, 259, 260, 32, 261, 95, 296, 297, 2, 298, 299, 1020, 1021, 1022, 1023, 1024, 1025, 1026, 1027, 1068, 1069, 1070, 1071, 1072, 1073, 1074, 1075, 1076, 1077, 1078, 1079, 1080, 1081] (by decide +kernel) (by decide +kernel)
set_option maxRecDepth 20000 in
theorem gL_law_X7_as : GoodIn wsL_law (wsV RL 28 RX7 yX7_as wsX7_as) := goodIn_app (goodIn_of _ (by decide +kernel)) ggL_law_X7_as
set_option maxRecDepth 20000 in
theorem ggL_law_X8_as : GoodIn wsL_law wsX8_as := goodIn_r _ [303, 116, 282, 283, 284, 5, 285, 143, 144, 145, 1028, 1029, 1030, 1031, 1032, 1033, 1034, 1035, 1036, 1037, 1038, 1039, 1040, 1041, 1042, 1043, 1044, 1045, 1046, 1047, 1048, 1049] (by decide +kernel) (by decide +kernel)
set_option maxRecDepth 20000 in
theorem gL_law_X8_as : GoodIn wsL_law (wsV RL 31 RX8 yX8_as wsX8_as) := goodIn_app (goodIn_of _ (by decide +kernel)) ggL_law_X8_as
set_option maxRecDepth 20000 in
theorem ggL_law_X7_judge : GoodIn wsL_law wsX7_judge := goodIn_r _ [307, 37, 308, 309, 257, 310, 311, 312, 32, 313, 96, 1020, 1021, 1022, 1023, 1024, 1025, 1026, 1027, 1068, 1069, 1070, 1071, 1072, 1073, 1074, 1075, 1076, 1077, 1078, 1079, 1080, 1081] (by decide +kernel) (by decide +kernel)
set_option maxRecDepth 20000 in
theorem gL_law_X7_judge : GoodIn wsL_law (wsV RL 32 RX7 yX7_judge wsX7_judge) := goodIn_app (goodIn_of _ (by decide +kernel)) ggL_law_X7_judge
set_option maxRecDepth 20000 in
theorem ggL_law_X8_judge : GoodIn wsL_law wsX8_judge := goodIn_r _ [317, 116, 318, 319, 320, 5, 321, 143, 144, 145, 1028, 1029, 1030, 1031, 1032, 1033, 1034, 1035, 1036, 1037, 1038, 1039, 1040, 1041, 1042, 1043, 1044, 1045, 1046, 1047, 1048, 1049] (by decide +kernel) (by decide +kernel)
set_option maxRecDepth 20000 in
theorem gL_law_X8_judge : GoodIn wsL_law (wsV RL 35 RX8 yX8_judge wsX8_judge) := goodIn_app (goodIn_of _ (by decide +kernel)) ggL_law_X8_judge
set_option maxRecDepth 20000 in
theorem ggL_law_X7_trial : GoodIn wsL_law wsX7_trial := goodIn_r _ [325, 37, 326, 327, 328, 329, 330, 331, 332, 32, 333, 97, 1020, 1021, 1022, 1023, 1024, 1025, 1026, 1027, 1068, 1069, 1070, 1071, 1072, 1073, 1074, 1075, 1076, 1077, 1078, 1079, 1080, 1081] (by decide +kernel) (by decide +kernel)
set_option maxRecDepth 20000 in
theorem gL_law_X7_trial : GoodIn wsL_law (wsV RL 36 RX7 yX7_trial wsX7_trial) := goodIn_app (goodIn_of _ (by decide +kernel)) ggL_law_X7_trial
set_option maxRecDepth 20000 in
theorem ggL_law_X8_trial : GoodIn wsL_law wsX8_trial := goodIn_r _ [337, 116, 338, 339, 340, 5, 341, 143, 144, 145, 1028, 1029, 1030, 1031, 1032, 1033, 1034, 1035, 1036, 1037, 1038, 1039, 1040, 1041, 1042, 1043, 1044, 1045, 1046, 1047, 1048, 1049] (by decide +kernel) (by decide +kernel)
set_option maxRecDepth 20000 in
theorem gL_law_X8_trial : GoodIn wsL_law (wsV RL 39 RX8 yX8_trial wsX8_trial) := goodIn_app (goodIn_of _ (by decide +kernel)) ggL_law_X8_trial
set_option maxRecDepth 20000 in
theorem ggL_law_X7_finds : GoodIn wsL_law wsX7_finds := goodIn_r _ [345, 37, 310, 311, 312, 32, 313, 96, 330, 331, 332, 333, 97, 346, 347, 348, 349, 89, 91, 92, 350, 351, 352, 353, 93, 90, 1020, 1021, 1022, 1023, 1024, 1025, 1026, 1027, 1068, 1069, 1070, 1071, 1072, 1073, 1074, 1075, 1076, 1077, 1078, 1079, 1080, 1081] (by decide +kernel) (by decide +kernel)
set_option maxRecDepth 20000 in
theorem gL_law_X7_finds : GoodIn wsL_law (wsV RL 40 RX7 yX7_finds wsX7_finds) := goodIn_app (goodIn_of _ (by decide +kernel)) ggL_law_X7_finds
set_option maxRecDepth 20000 in
theorem ggL_law_X8_finds : GoodIn wsL_law wsX8_finds := goodIn_r _ [357, 116, 318, 319, 320, 5, 321, 143, 144, 145, 338, 339, 340, 341, 358, 359, 360, 1028, 1029, 1030, 1031, 1032, 1033, 1034, 1035, 1036, 1037, 1038, 1039, 1040, 1041, 1042, 1043, 1044, 1045, 1046, 1047, 1048, 1049] (by decide +kernel) (by decide +kernel)
set_option maxRecDepth 20000 in
theorem gL_law_X8_finds : GoodIn wsL_law (wsV RL 43 RX8 yX8_finds wsX8_finds) := goodIn_app (goodIn_of _ (by decide +kernel)) ggL_law_X8_finds
set_option maxRecDepth 20000 in
theorem ggL_law_X7_names : GoodIn wsL_law wsX7_names := goodIn_r _ [364, 37, 258, 259, 260, 32, 261, 95, 310, 311, 312, 313, 96, 262, 263, 264, 265, 86, 266, 267, 268, 269, 270, 271, 272, 273, 274, 275, 276, 277, 89, 90, 1020, 1021, 1022, 1023, 1024, 1025, 1026, 1027, 1068, 1069, 1070, 1071, 1072, 1073, 1074, 1075, 1076, 1077, 1078, 1079, 1080, 1081] (by decide +kernel) (by decide +kernel)
set_option maxRecDepth 20000 in
theorem gL_law_X7_names : GoodIn wsL_law (wsV RL 44 RX7 yX7_names wsX7_names) := goodIn_app (goodIn_of _ (by decide +kernel)) ggL_law_X7_names
set_option maxRecDepth 20000 in
theorem ggL_law_X8_names : GoodIn wsL_law wsX8_names := goodIn_r _ [368, 116, 282, 283, 284, 5, 285, 143, 144, 145, 318, 319, 320, 321, 286, 287, 288, 289, 290, 291, 1028, 1029, 1030, 1031, 1032, 1033, 1034, 1035, 1036, 1037, 1038, 1039, 1040, 1041, 1042, 1043, 1044, 1045, 1046, 1047, 1048, 1049] (by decide +kernel) (by decide +kernel)
set_option maxRecDepth 20000 in
theorem gL_law_X8_names : GoodIn wsL_law (wsV RL 47 RX8 yX8_names wsX8_names) := goodIn_app (goodIn_of _ (by decide +kernel)) ggL_law_X8_names
set_option maxRecDepth 20000 in
theorem ggL_law_X7_hear : GoodIn wsL_law wsX7_hear := goodIn_r _ [372, 37, 373, 20, 255, 326, 374, 327, 375, 257, 376, 329, 377, 378, 379, 32, 380, 97, 98, 381, 382, 383, 19, 384, 53, 52, 385, 386, 387, 388, 51, 389, 390, 391, 392, 393, 394, 395, 99, 92, 91, 94, 88, 87, 396, 397, 398, 93, 399, 86, 400, 347, 348, 349, 89, 350, 351, 352, 353, 90, 401, 402, 403, 404, 405, 406, 407, 408, 266, 267, 268, 269, 96, 270, 271, 272, 273, 274, 275, 276, 277, 1020, 1021, 1022, 1023, 1024, 1025, 1026, 1027, 1068, 1069, 1070, 1071, 1072, 1073, 1074, 1075, 1076, 1077, 1078, 1079, 1080, 1081, 1086, 1087, 1088, 1089, 1090, 1091, 1053, 1054, 1055] (by decide +kernel) (by decide +kernel)
set_option maxRecDepth 20000 in
theorem gL_law_X7_hear : GoodIn wsL_law (wsV RL 48 RX7 yX7_hear wsX7_hear) := goodIn_app (goodIn_of _ (by decide +kernel)) ggL_law_X7_hear
set_option maxRecDepth 20000 in
theorem ggL_law_X8_hear : GoodIn wsL_law wsX8_hear := goodIn_r _ [412, 116, 143, 144, 5, 145, 413, 414, 415, 416, 417, 418, 419, 420, 215, 122, 247, 248, 249, 421, 422, 423, 424, 425, 426, 358, 359, 360, 427, 428, 429, 430, 431, 432, 286, 287, 288, 289, 290, 291, 1028, 1029, 1030, 1031, 1032, 1033, 1034, 1035, 1036, 1037, 1038, 1039, 1040, 1041, 1042, 1043, 1044, 1045, 1046, 1047, 1048, 1049] (by decide +kernel) (by decide +kernel)
set_option maxRecDepth 20000 in
theorem gL_law_X8_hear : GoodIn wsL_law (wsV RL 51 RX8 yX8_hear wsX8_hear) := goodIn_app (goodIn_of _ (by decide +kernel)) ggL_law_X8_hear
set_option maxRecDepth 20000 in
theorem ggL_law_X7_swap : GoodIn wsL_law wsX7_swap := goodIn_r _ [436, 37, 373, 20, 330, 331, 332, 32, 333, 97, 381, 382, 383, 19, 384, 53, 52, 385, 386, 387, 388, 51, 389, 390, 391, 437, 438, 439, 440, 91, 92, 93, 441, 442, 443, 1020, 1021, 1022, 1023, 1024, 1025, 1026, 1027, 1068, 1069, 1070, 1071, 1072, 1073, 1074, 1075, 1076, 1077, 1078, 1079, 1080, 1081, 1053, 1054, 1055, 1086, 1087, 1088, 1089, 1090, 1091] (by decide +kernel) (by decide +kernel)
set_option maxRecDepth 20000 in
theorem gL_law_X7_swap : GoodIn wsL_law (wsV RL 52 RX7 yX7_swap wsX7_swap) := goodIn_app (goodIn_of _ (by decide +kernel)) ggL_law_X7_swap
set_option maxRecDepth 20000 in
theorem ggL_law_X8_swap : GoodIn wsL_law wsX8_swap := goodIn_r _ [447, 116, 338, 339, 340, 5, 341, 143, 144, 145, 417, 418, 419, 420, 215, 122, 247, 248, 249, 448, 449, 450, 451, 452, 453, 1028, 1029, 1030, 1031, 1032, 1033, 1034, 1035, 1036, 1037, 1038, 1039, 1040, 1041, 1042, 1043, 1044, 1045, 1046, 1047, 1048, 1049] (by decide +kernel) (by decide +kernel)
set_option maxRecDepth 20000 in
theorem gL_law_X8_swap : GoodIn wsL_law (wsV RL 55 RX8 yX8_swap wsX8_swap) := goodIn_app (goodIn_of _ (by decide +kernel)) ggL_law_X8_swap
set_option maxRecDepth 20000 in
theorem ggL_law_X7_soothe : GoodIn wsL_law wsX7_soothe := goodIn_r _ [457, 37, 255, 20, 374, 458, 397, 387, 398, 258, 259, 260, 32, 261, 95, 381, 382, 383, 19, 384, 53, 52, 385, 386, 388, 51, 389, 390, 391, 1020, 1021, 1022, 1023, 1024, 1025, 1026, 1027, 1068, 1069, 1070, 1071, 1072, 1073, 1074, 1075, 1076, 1077, 1078, 1079, 1080, 1081, 1086, 1087, 1088, 1089, 1090, 1091, 1053, 1054, 1055] (by decide +kernel) (by decide +kernel)
set_option maxRecDepth 20000 in
theorem gL_law_X7_soothe : GoodIn wsL_law (wsV RL 56 RX7 yX7_soothe wsX7_soothe) := goodIn_app (goodIn_of _ (by decide +kernel)) ggL_law_X7_soothe
set_option maxRecDepth 20000 in
theorem ggL_law_X8_soothe : GoodIn wsL_law wsX8_soothe := goodIn_r _ [462, 116, 282, 283, 284, 5, 285, 143, 144, 145, 417, 418, 419, 420, 215, 122, 247, 248, 249, 1028, 1029, 1030, 1031, 1032, 1033, 1034, 1035, 1036, 1037, 1038, 1039, 1040, 1041, 1042, 1043, 1044, 1045, 1046, 1047, 1048, 1049] (by decide +kernel) (by decide +kernel)
set_option maxRecDepth 20000 in
theorem gL_law_X8_soothe : GoodIn wsL_law (wsV RL 59 RX8 yX8_soothe wsX8_soothe) := goodIn_app (goodIn_of _ (by decide +kernel)) ggL_law_X8_soothe
set_option maxRecDepth 20000 in
theorem ggL_law_X7_seat : GoodIn wsL_law wsX7_seat := goodIn_r _ [466, 37, 257, 20, 376, 310, 311, 312, 32, 313, 96, 381, 382, 383, 19, 384, 53, 52, 385, 386, 387, 388, 51, 389, 390, 391, 1020, 1021, 1022, 1023, 1024, 1025, 1026, 1027, 1068, 1069, 1070, 1071, 1072, 1073, 1074, 1075, 1076, 1077, 1078, 1079, 1080, 1081, 1086, 1087, 1088, 1089, 1090, 1091, 1053, 1054, 1055] (by decide +kernel) (by decide +kernel)
set_option maxRecDepth 20000 in
theorem gL_law_X7_seat : GoodIn wsL_law (wsV RL 60 RX7 yX7_seat wsX7_seat) := goodIn_app (goodIn_of _ (by decide +kernel)) ggL_law_X7_seat
set_option maxRecDepth 20000 in
theorem ggL_law_X8_seat : GoodIn wsL_law wsX8_seat := goodIn_r _ [470, 116, 318, 319, 320, 5, 321, 143, 144, 145, 417, 418, 419, 420, 215, 122, 247, 248, 249, 1028, 1029, 1030, 1031, 1032, 1033, 1034, 1035, 1036, 1037, 1038, 1039, 1040, 1041, 1042, 1043, 1044, 1045, 1046, 1047, 1048, 1049] (by decide +kernel) (by decide +kernel)
set_option maxRecDepth 20000 in
theorem gL_law_X8_seat : GoodIn wsL_law (wsV RL 63 RX8 yX8_seat wsX8_seat) := goodIn_app (goodIn_of _ (by decide +kernel)) ggL_law_X8_seat
set_option maxRecDepth 20000 in
theorem ggL_law_X7_lean : GoodIn wsL_law wsX7_lean := goodIn_r _ [474, 37, 308, 20, 374, 310, 311, 312, 32, 313, 96, 381, 382, 383, 19, 384, 53, 52, 385, 386, 387, 388, 51, 389, 390, 391, 1020, 1021, 1022, 1023, 1024, 1025, 1026, 1027, 1068, 1069, 1070, 1071, 1072, 1073, 1074, 1075, 1076, 1077, 1078, 1079, 1080, 1081, 1086, 1087, 1088, 1089, 1090, 1091, 1053, 1054, 1055] (by decide +kernel) (by decide +kernel)
set_option maxRecDepth 20000 in
theorem gL_law_X7_lean : GoodIn wsL_law (wsV RL 64 RX7 yX7_lean wsX7_lean) := goodIn_app (goodIn_of _ (by decide +kernel)) ggL_law_X7_lean
set_option maxRecDepth 20000 in
theorem ggL_law_X8_lean : GoodIn wsL_law wsX8_lean := goodIn_r _ [478, 116, 318, 319, 320, 5, 321, 143, 144, 145, 417, 418, 419, 420, 215, 122, 247, 248, 249, 1028, 1029, 1030, 1031, 1032, 1033, 1034, 1035, 1036, 1037, 1038, 1039, 1040, 1041, 1042, 1043, 1044, 1045, 1046, 1047, 1048, 1049] (by decide +kernel) (by decide +kernel)
set_option maxRecDepth 20000 in
theorem gL_law_X8_lean : GoodIn wsL_law (wsV RL 67 RX8 yX8_lean wsX8_lean) := goodIn_app (goodIn_of _ (by decide +kernel)) ggL_law_X8_lean
set_option maxRecDepth 20000 in
theorem ggL_law_X7_undo : GoodIn wsL_law wsX7_undo := goodIn_r _ [482, 20, 151, 37, 483, 484, 485, 19, 486, 51, 53, 487, 488, 489, 55, 490, 59, 60, 61, 491, 62, 64, 492, 493, 494, 495, 496, 497, 498, 499, 500, 501, 63, 502, 503, 438, 439, 32, 440, 91, 92, 93, 441, 442, 443, 504, 505, 506, 507, 52, 1020, 1021, 1022, 1023, 1024, 1025, 1026, 1027, 1053, 1054, 1055, 1086, 1087, 1088, 1089, 1090, 1091, 1068, 1069, 1070, 1071, 1072, 1073, 1074, 1075, 1076, 1077, 1078, 1079, 1080, 1081] (by decide +kernel) (by decide +kernel)
set_option maxRecDepth 20000 in
theorem gL_law_X7_undo : GoodIn wsL_law (wsV RL 68 RX7 yX7_undo wsX7_undo) := goodIn_app (goodIn_of _ (by decide +kernel)) ggL_law_X7_undo
set_option maxRecDepth 20000 in
theorem ggL_law_X8_undo : GoodIn wsL_law wsX8_undo := goodIn_r _ [511, 215, 122, 116, 247, 248, 5, 249, 1028, 1029, 1030, 1031, 1032, 1033, 1034, 1035, 1036, 1037, 1038, 1039, 1040, 1041, 1042, 1043, 1044, 1045, 1046, 1047, 1048, 1049] (by decide +kernel) (by decide +kernel)
set_option maxRecDepth 20000 in
theorem gL_law_X8_undo : GoodIn wsL_law (wsV RL 71 RX8 yX8_undo wsX8_undo) := goodIn_app (goodIn_of _ (by decide +kernel)) ggL_law_X8_undo
set_option maxRecDepth 20000 in
theorem ggL_law_X7_image : GoodIn wsL_law wsX7_image := goodIn_r _ [515, 37, 30, 373, 516, 517, 518, 32, 519, 97, 520, 521, 522, 523, 86, 524, 525, 526, 527, 87, 88, 89, 90, 91, 92, 93, 94, 95, 96, 98, 99, 1020, 1021, 1022, 1023, 1024, 1025, 1026, 1027, 1068, 1069, 1070, 1071, 1072, 1073, 1074, 1075, 1076, 1077, 1078, 1079, 1080, 1081] (by decide +kernel) (by decide +kernel)
set_option maxRecDepth 20000 in
theorem gL_law_X7_image : GoodIn wsL_law (wsV RL 72 RX7 yX7_image wsX7_image) := goodIn_app (goodIn_of _ (by decide +kernel)) ggL_law_X7_image
set_option maxRecDepth 20000 in
theorem ggL_law_X8_image : GoodIn wsL_law wsX8_image := goodIn_r _ [531, 116, 119, 121, 143, 144, 5, 145, 532, 533, 534, 535, 247, 248, 249, 1028, 1029, 1030, 1031, 1032, 1033, 1034, 1035, 1036, 1037, 1038, 1039, 1040, 1041, 1042, 1043, 1044, 1045, 1046, 1047, 1048, 1049] (by decide +kernel) (by decide +kernel)
set_option maxRecDepth 20000 in
theorem gL_law_X8_image : GoodIn wsL_law (wsV RL 75 RX8 yX8_image wsX8_image) := goodIn_app (goodIn_of _ (by decide +kernel)) ggL_law_X8_image
set_option maxRecDepth 20000 in
theorem ggL_law_X7_restore : GoodIn wsL_law wsX7_restore := goodIn_r _ [539, 30, 37, 20, 151, 373, 516, 517, 518, 32, 519, 97, 520, 521, 522, 523, 86, 524, 525, 526, 527, 87, 88, 89, 90, 91, 92, 93, 94, 95, 96, 98, 99, 1020, 1021, 1022, 1023, 1024, 1025, 1026, 1027, 1053, 1054, 1055, 1068, 1069, 1070, 1071, 1072, 1073, 1074, 1075, 1076, 1077, 1078, 1079, 1080, 1081] (by decide +kernel) (by decide +kernel)
set_option maxRecDepth 20000 in
theorem gL_law_X7_restore : GoodIn wsL_law (wsV RL 76 RX7 yX7_restore wsX7_restore) := goodIn_app (goodIn_of _ (by decide +kernel)) ggL_law_X7_restore
set_option maxRecDepth 20000 in
theorem ggL_law_X8_restore : GoodIn wsL_law wsX8_restore := goodIn_r _ [543, 121, 119, 116, 215, 143, 144, 5, 145, 247, 248, 249, 1028, 1029, 1030, 1031, 1032, 1033, 1034, 1035, 1036, 1037, 1038, 1039, 1040, 1041, 1042, 1043, 1044, 1045, 1046, 1047, 1048, 1049] (by decide +kernel) (by decide +kernel)
set_option maxRecDepth 20000 in
theorem gL_law_X8_restore : GoodIn wsL_law (wsV RL 79 RX8 yX8_restore wsX8_restore) := goodIn_app (goodIn_of _ (by decide +kernel)) ggL_law_X8_restore
set_option maxRecDepth 20000 in
theorem ggL_law_X7_ahead : GoodIn wsL_law wsX7_ahead := goodIn_r _ [547, 37, 38, 257, 329, 373, 548, 549, 2, 550, 516, 517, 518, 32, 519, 97, 377, 378, 379, 380, 98, 551, 552, 553, 554, 520, 521, 522, 523, 86, 524, 525, 526, 527, 87, 88, 89, 90, 91, 92, 93, 94, 95, 96, 99, 392, 393, 394, 395, 396, 397, 387, 398, 399, 386, 388, 400, 347, 348, 349, 350, 351, 352, 353, 401, 402, 403, 404, 405, 406, 407, 408, 266, 267, 268, 269, 270, 271, 272, 273, 274, 275, 276, 277, 1020, 1021, 1022, 1023, 1024, 1025, 1026, 1027, 1068, 1069, 1070, 1071, 1072, 1073, 1074, 1075, 1076, 1077, 1078, 1079, 1080, 1081] (by decide +kernel) (by decide +kernel)
set_option maxRecDepth 20000 in
theorem gL_law_X7_ahead : GoodIn wsL_law (wsV RL 80 RX7 yX7_ahead wsX7_ahead) := goodIn_app (goodIn_of _ (by decide +kernel)) ggL_law_X7_ahead
set_option maxRecDepth 20000 in
theorem ggL_law_X8_ahead : GoodIn wsL_law wsX8_ahead := goodIn_r _ [558, 118, 143, 144, 5, 145, 532, 533, 534, 535, 116, 413, 414, 415, 416, 559, 560, 561, 562, 247, 248, 249, 421, 422, 423, 424, 425, 426, 358, 359, 360, 427, 428, 429, 430, 431, 432, 286, 287, 288, 289, 290, 291, 1028, 1029, 1030, 1031, 1032, 1033, 1034, 1035, 1036, 1037, 1038, 1039, 1040, 1041, 1042, 1043, 1044, 1045, 1046, 1047, 1048, 1049] (by decide +kernel) (by decide +kernel)
set_option maxRecDepth 20000 in
theorem gL_law_X8_ahead : GoodIn wsL_law (wsV RL 83 RX8 yX8_ahead wsX8_ahead) := goodIn_app (goodIn_of _ (by decide +kernel)) ggL_law_X8_ahead
set_option maxRecDepth 20000 in
theorem ggL_law_X7_throwing : GoodIn wsL_law wsX7_throwing := goodIn_r _ [566, 37, 373, 24, 258, 259, 260, 32, 261, 95, 330, 331, 332, 333, 97, 567, 568, 569, 570, 91, 92, 571, 572, 573, 23, 574, 68, 575, 576, 577, 69, 578, 579, 386, 387, 388, 580, 581, 582, 583, 584, 585, 586, 587, 588, 347, 348, 349, 89, 350, 351, 352, 353, 93, 90, 589, 590, 591, 592, 86, 401, 402, 403, 404, 266, 267, 268, 269, 96, 270, 271, 272, 273, 274, 275, 276, 277, 593, 594, 263, 264, 265, 595, 596, 597, 598, 599, 525, 526, 527, 1020, 1021, 1022, 1023, 1024, 1025, 1026, 1027, 1068, 1069, 1070, 1071, 1072, 1073, 1074, 1075, 1076, 1077, 1078, 1079, 1080, 1081, 1056, 1057, 1058, 1059, 1060, 1061, 1062, 1063] (by decide +kernel) (by decide +kernel)
set_option maxRecDepth 20000 in
theorem gL_law_X7_throwing : GoodIn wsL_law (wsV RL 84 RX7 yX7_throwing wsX7_throwing) := goodIn_app (goodIn_of _ (by decide +kernel)) ggL_law_X7_throwing
set_option maxRecDepth 20000 in
theorem ggL_law_X8_throwing : GoodIn wsL_law wsX8_throwing := goodIn_r _ [603, 116, 118, 282, 283, 284, 5, 285, 143, 144, 145, 338, 339, 340, 341, 604, 605, 606, 607, 608, 609, 610, 611, 612, 613, 614, 615, 616, 617, 618, 559, 560, 561, 562, 247, 248, 249, 619, 620, 621, 421, 422, 423, 424, 425, 426, 358, 359, 360, 427, 428, 429, 430, 431, 432, 286, 287, 288, 289, 290, 291, 1028, 1029, 1030, 1031, 1032, 1033, 1034, 1035, 1036, 1037, 1038, 1039, 1040, 1041, 1042, 1043, 1044, 1045, 1046, 1047, 1048, 1049] (by decide +kernel) (by decide +kernel)
set_option maxRecDepth 20000 in
theorem gL_law_X8_throwing : GoodIn wsL_law (wsV RL 87 RX8 yX8_throwing wsX8_throwing) := goodIn_app (goodIn_of _ (by decide +kernel)) ggL_law_X8_throwing
set_option maxRecDepth 20000 in
theorem ggL_law_X7_worth : GoodIn wsL_law wsX7_worth := goodIn_r _ [625, 37, 24, 258, 259, 260, 32, 261, 95, 377, 378, 379, 380, 97, 98, 626, 627, 628, 23, 629, 68, 577, 578, 579, 386, 387, 388, 630, 397, 398, 69, 576, 580, 581, 582, 583, 588, 347, 348, 349, 89, 91, 92, 350, 351, 352, 353, 93, 90, 631, 632, 633, 634, 589, 590, 591, 592, 86, 401, 402, 403, 404, 266, 267, 268, 269, 96, 270, 271, 272, 273, 274, 275, 276, 277, 593, 568, 569, 570, 635, 595, 596, 597, 598, 599, 525, 526, 527, 1020, 1021, 1022, 1023, 1024, 1025, 1026, 1027, 1068, 1069, 1070, 1071, 1072, 1073, 1074, 1075, 1076, 1077, 1078, 1079, 1080, 1081, 1056, 1057, 1058, 1059, 1060, 1061, 1062, 1063] (by decide +kernel) (by decide +kernel)
set_option maxRecDepth 20000 in
theorem gL_law_X7_worth : GoodIn wsL_law (wsV RL 88 RX7 yX7_worth wsX7_worth) := goodIn_app (goodIn_of _ (by decide +kernel)) ggL_law_X7_worth
set_option maxRecDepth 20000 in
theorem ggL_law_X8_worth : GoodIn wsL_law wsX8_worth := goodIn_r _ [639, 116, 282, 283, 284, 5, 285, 143, 144, 145, 608, 609, 610, 611, 604, 605, 606, 607, 615, 616, 617, 618, 118, 559, 560, 561, 562, 247, 248, 249, 619, 620, 621, 421, 422, 423, 424, 425, 426, 358, 359, 360, 427, 428, 429, 430, 431, 432, 286, 287, 288, 289, 290, 291, 1028, 1029, 1030, 1031, 1032, 1033, 1034, 1035, 1036, 1037, 1038, 1039, 1040, 1041, 1042, 1043, 1044, 1045, 1046, 1047, 1048, 1049] (by decide +kernel) (by decide +kernel)
set_option maxRecDepth 20000 in
theorem gL_law_X8_worth : GoodIn wsL_law (wsV RL 91 RX8 yX8_worth wsX8_worth) := goodIn_app (goodIn_of _ (by decide +kernel)) ggL_law_X8_worth
set_option maxRecDepth 20000 in
theorem ggL_law_X7_duel : GoodIn wsL_law wsX7_duel := goodIn_r _ [643, 37, 24, 644, 386, 387, 388, 258, 259, 260, 32, 261, 95, 377, 378, 379, 380, 97, 98, 626, 627, 628, 23, 629, 68, 577, 578, 579, 630, 397, 398, 69, 576, 580, 581, 582, 583, 588, 347, 348, 349, 89, 91, 92, 350, 351, 352, 353, 93, 90, 631, 632, 633, 634, 589, 590, 591, 592, 86, 401, 402, 403, 404, 266, 267, 268, 269, 96, 270, 271, 272, 273, 274, 275, 276, 277, 593, 568, 569, 570, 635, 595, 596, 597, 598, 599, 525, 526, 527, 1020, 1021, 1022, 1023, 1024, 1025, 1026, 1027, 1068, 1069, 1070, 1071, 1072, 1073, 1074, 1075, 1076, 1077, 1078, 1079, 1080, 1081, 1056, 1057, 1058, 1059, 1060, 1061, 1062, 1063] (by decide +kernel) (by decide +kernel)
set_option maxRecDepth 20000 in
theorem gL_law_X7_duel : GoodIn wsL_law (wsV RL 92 RX7 yX7_duel wsX7_duel) := goodIn_app (goodIn_of _ (by decide +kernel)) ggL_law_X7_duel
set_option maxRecDepth 20000 in
theorem ggL_law_X8_duel : GoodIn wsL_law wsX8_duel := goodIn_r _ [648, 123, 116, 282, 283, 284, 5, 285, 143, 144, 145, 413, 414, 415, 416, 649, 650, 651, 652, 118, 559, 560, 561, 562, 247, 248, 249, 421, 422, 423, 424, 425, 426, 358, 359, 360, 427, 428, 429, 430, 431, 432, 286, 287, 288, 289, 290, 291, 604, 605, 606, 607, 1028, 1029, 1030, 1031, 1032, 1033, 1034, 1035, 1036, 1037, 1038, 1039, 1040, 1041, 1042, 1043, 1044, 1045, 1046, 1047, 1048, 1049] (by decide +kernel) (by decide +kernel)
set_option maxRecDepth 20000 in
theorem gL_law_X8_duel : GoodIn wsL_law (wsV RL 96 RX8 yX8_duel wsX8_duel) := goodIn_app (goodIn_of _ (by decide +kernel)) ggL_law_X8_duel
set_option maxRecDepth 20000 in
theorem ggL_law_X7_order : GoodIn wsL_law wsX7_order := goodIn_r _ [656, 37, 24, 257, 373, 516, 517, 518, 32, 519, 97, 377, 378, 379, 380, 98, 657, 658, 659, 23, 660, 578, 577, 71, 70, 72, 588, 347, 348, 349, 89, 91, 92, 350, 351, 352, 353, 93, 90, 661, 662, 663, 664, 589, 590, 591, 592, 86, 401, 402, 403, 404, 266, 267, 268, 269, 96, 270, 271, 272, 273, 274, 275, 276, 277, 580, 581, 582, 583, 665, 666, 667, 668, 630, 397, 387, 398, 669, 670, 671, 672, 673, 674, 675, 676, 677, 678, 679, 680, 576, 681, 682, 683, 684, 1020, 1021, 1022, 1023, 1024, 1025, 1026, 1027, 1068, 1069, 1070, 1071, 1072, 1073, 1074, 1075, 1076, 1077, 1078, 1079, 1080, 1081, 1056, 1057, 1058, 1059, 1060, 1061, 1062, 1063] (by decide +kernel) (by decide +kernel)
set_option maxRecDepth 20000 in
theorem gL_law_X7_order : GoodIn wsL_law (wsV RL 97 RX7 yX7_order wsX7_order) := goodIn_app (goodIn_of _ (by decide +kernel)) ggL_law_X7_order
set_option maxRecDepth 20000 in
theorem ggL_law_X8_order : GoodIn wsL_law wsX8_order := goodIn_r _ [688, 689, 125, 143, 144, 5, 145, 532, 533, 534, 535, 116, 413, 414, 415, 416, 690, 691, 692, 693, 124, 694, 695, 696, 697, 118, 559, 560, 561, 562, 247, 248, 249, 421, 422, 423, 424, 425, 426, 358, 359, 360, 427, 428, 429, 430, 431, 432, 286, 287, 288, 289, 290, 291, 698, 699, 700, 701, 702, 703, 704, 451, 452, 453, 1028, 1029, 1030, 1031, 1032, 1033, 1034, 1035, 1036, 1037, 1038, 1039, 1040, 1041, 1042, 1043, 1044, 1045, 1046, 1047, 1048, 1049] (by decide +kernel) (by decide +kernel)
set_option maxRecDepth 20000 in
theorem gL_law_X8_order : GoodIn wsL_law (wsV RL 100 RX8 yX8_order wsX8_order) := goodIn_app (goodIn_of _ (by decide +kernel)) ggL_law_X8_order
set_option maxRecDepth 20000 in
theorem ggL_law_X7_round : GoodIn wsL_law wsX7_round := goodIn_r _ [708, 37, 38, 24, 330, 331, 332, 32, 333, 97, 548, 549, 2, 550, 520, 521, 522, 523, 86, 524, 525, 526, 527, 87, 88, 89, 90, 91, 92, 93, 94, 95, 96, 98, 99, 709, 710, 711, 712, 713, 714, 715, 23, 716, 717, 718, 719, 720, 721, 393, 394, 395, 396, 397, 387, 398, 399, 386, 388, 400, 347, 348, 349, 350, 351, 352, 353, 401, 402, 403, 404, 405, 406, 407, 408, 266, 267, 268, 269, 270, 271, 272, 273, 274, 275, 276, 277, 722, 723, 724, 725, 726, 1020, 1021, 1022, 1023, 1024, 1025, 1026, 1027, 1068, 1069, 1070, 1071, 1072, 1073, 1074, 1075, 1076, 1077, 1078, 1079, 1080, 1081] (by decide +kernel) (by decide +kernel)
set_option maxRecDepth 20000 in
theorem gL_law_X7_round : GoodIn wsL_law (wsV RL 101 RX7 yX7_round wsX7_round) := goodIn_app (goodIn_of _ (by decide +kernel)) ggL_law_X7_round
set_option maxRecDepth 20000 in
theorem ggL_law_X8_round : GoodIn wsL_law wsX8_round := goodIn_r _ [730, 731, 732, 338, 339, 340, 5, 341, 116, 143, 144, 145, 733, 734, 735, 736, 126, 118, 559, 560, 561, 562, 247, 248, 249, 737, 738, 739, 740, 358, 359, 360, 427, 428, 429, 430, 431, 432, 286, 287, 288, 289, 290, 291, 1028, 1029, 1030, 1031, 1032, 1033, 1034, 1035, 1036, 1037, 1038, 1039, 1040, 1041, 1042, 1043, 1044, 1045, 1046, 1047, 1048, 1049] (by decide +kernel) (by decide +kernel)
set_option maxRecDepth 20000 in
theorem gL_law_X8_round : GoodIn wsL_law (wsV RL 104 RX8 yX8_round wsX8_round) := goodIn_app (goodIn_of _ (by decide +kernel)) ggL_law_X8_round
set_option maxRecDepth 20000 in
theorem ggL_law_X7_bench : GoodIn wsL_law wsX7_bench := goodIn_r _ [744, 37, 24, 258, 259, 260, 32, 261, 95, 745, 746, 747, 23, 748, 73, 75, 74, 580, 581, 582, 583, 749, 750, 751, 752, 578, 753, 754, 755, 756, 757, 758, 759, 271, 272, 273, 96, 274, 275, 276, 277, 89, 90, 760, 761, 762, 763, 1020, 1021, 1022, 1023, 1024, 1025, 1026, 1027, 1068, 1069, 1070, 1071, 1072, 1073, 1074, 1075, 1076, 1077, 1078, 1079, 1080, 1081, 1056, 1057, 1058, 1059, 1060, 1061, 1062, 1063] (by decide +kernel) (by decide +kernel)
set_option maxRecDepth 20000 in
theorem gL_law_X7_bench : GoodIn wsL_law (wsV RL 105 RX7 yX7_bench wsX7_bench) := goodIn_app (goodIn_of _ (by decide +kernel)) ggL_law_X7_bench
set_option maxRecDepth 20000 in
theorem ggL_law_X8_bench : GoodIn wsL_law wsX8_bench := goodIn_r _ [767, 127, 128, 116, 282, 283, 284, 5, 285, 143, 144, 145, 768, 769, 770, 771, 772, 773, 774, 775, 289, 290, 291, 619, 620, 621, 776, 777, 778, 779, 1028, 1029, 1030, 1031, 1032, 1033, 1034, 1035, 1036, 1037, 1038, 1039, 1040, 1041, 1042, 1043, 1044, 1045, 1046, 1047, 1048, 1049] (by decide +kernel) (by decide +kernel)
set_option maxRecDepth 20000 in
theorem gL_law_X8_bench : GoodIn wsL_law (wsV RL 108 RX8 yX8_bench wsX8_bench) := goodIn_app (goodIn_of _ (by decide +kernel)) ggL_law_X8_bench
set_option maxRecDepth 20000 in
theorem ggL_law_X7_errors : GoodIn wsL_law wsX7_errors := goodIn_r _ [783, 37, 24, 258, 259, 260, 32, 261, 95, 548, 549, 2, 550, 377, 378, 379, 380, 97, 98, 784, 785, 786, 23, 787, 68, 576, 577, 69, 578, 580, 581, 582, 583, 588, 347, 348, 349, 89, 91, 92, 350, 351, 352, 353, 93, 90, 589, 590, 591, 592, 86, 401, 402, 403, 404, 266, 267, 268, 269, 96, 270, 271, 272, 273, 274, 275, 276, 277, 594, 263, 264, 265, 595, 596, 597, 598, 599, 525, 526, 527, 593, 568, 569, 570, 788, 789, 790, 1020, 1021, 1022, 1023, 1024, 1025, 1026, 1027, 1068, 1069, 1070, 1071, 1072, 1073, 1074, 1075, 1076, 1077, 1078, 1079, 1080, 1081, 1056, 1057, 1058, 1059, 1060, 1061, 1062, 1063] (by decide +kernel) (by decide +kernel)
set_option maxRecDepth 20000 in
theorem gL_law_X7_errors : GoodIn wsL_law (wsV RL 109 RX7 yX7_errors wsX7_errors) := goodIn_app (goodIn_of _ (by decide +kernel)) ggL_law_X7_errors
set_option maxRecDepth 20000 in
theorem ggL_law_X8_errors : GoodIn wsL_law wsX8_errors := goodIn_r _ [794, 118, 282, 283, 284, 5, 285, 116, 143, 144, 145, 413, 414, 415, 416, 559, 560, 561, 562, 247, 248, 249, 358, 359, 360, 619, 620, 621, 421, 422, 423, 424, 425, 426, 427, 428, 429, 430, 431, 432, 286, 287, 288, 289, 290, 291, 795, 796, 797, 1028, 1029, 1030, 1031, 1032, 1033, 1034, 1035, 1036, 1037, 1038, 1039, 1040, 1041, 1042, 1043, 1044, 1045, 1046, 1047, 1048, 1049] (by decide +kernel) (by decide +kernel)
set_option maxRecDepth 20000 in
theorem gL_law_X8_errors : GoodIn wsL_law (wsV RL 113 RX8 yX8_errors wsX8_errors) := goodIn_app (goodIn_of _ (by decide +kernel)) ggL_law_X8_errors
set_option maxRecDepth 20000 in
theorem ggL_law_X7_decades : GoodIn wsL_law wsX7_decades := goodIn_r _ [801, 802, 37, 38, 257, 548, 549, 2, 550, 516, 517, 518, 32, 519, 97, 520, 521, 522, 523, 86, 524, 525, 526, 527, 87, 88, 89, 90, 91, 92, 93, 94, 95, 96, 98, 99, 803, 804, 805, 806, 807, 808, 809, 810, 721, 393, 394, 395, 396, 397, 387, 398, 399, 386, 388, 400, 347, 348, 349, 350, 351, 352, 353, 401, 402, 403, 404, 405, 406, 407, 408, 266, 267, 268, 269, 270, 271, 272, 273, 274, 275, 276, 277, 811, 812, 813, 814, 1020, 1021, 1022, 1023, 1024, 1025, 1026, 1027, 1068, 1069, 1070, 1071, 1072, 1073, 1074, 1075, 1076, 1077, 1078, 1079, 1080, 1081] (by decide +kernel) (by decide +kernel)
set_option maxRecDepth 20000 in
theorem gL_law_X7_decades : GoodIn wsL_law (wsV RL 114 RX7 yX7_decades wsX7_decades) := goodIn_app (goodIn_of _ (by decide +kernel)) ggL_law_X7_decades
set_option maxRecDepth 20000 in
theorem ggL_law_X8_decades : GoodIn wsL_law wsX8_decades := goodIn_r _ [818, 819, 820, 821, 118, 822, 823, 143, 144, 5, 145, 532, 533, 534, 535, 116, 559, 560, 561, 562, 247, 248, 249, 421, 422, 423, 424, 425, 426, 358, 359, 360, 427, 428, 429, 430, 431, 432, 286, 287, 288, 289, 290, 291, 824, 825, 826, 1028, 1029, 1030, 1031, 1032, 1033, 1034, 1035, 1036, 1037, 1038, 1039, 1040, 1041, 1042, 1043, 1044, 1045, 1046, 1047, 1048, 1049] (by decide +kernel) (by decide +kernel)
set_option maxRecDepth 20000 in
theorem gL_law_X8_decades : GoodIn wsL_law (wsV RL 117 RX8 yX8_decades wsX8_decades) := goodIn_app (goodIn_of _ (by decide +kernel)) ggL_law_X8_decades
set_option maxRecDepth 20000 in
theorem ggL_law_X7_sheet : GoodIn wsL_law wsX7_sheet := goodIn_r _ [830, 34, 831, 832, 2, 833, 834, 835, 836, 837, 838, 839, 36, 840, 104, 105, 106, 107, 841, 842, 582, 843, 1020, 1021, 1022, 1023, 1024, 1025, 1026, 1027, 1082, 1083, 1084, 1085] (by decide +kernel) (by decide +kernel)
set_option maxRecDepth 20000 in
theorem gL_law_X7_sheet : GoodIn wsL_law (wsV RL 118 RX7 yX7_sheet wsX7_sheet) := goodIn_app (goodIn_of _ (by decide +kernel)) ggL_law_X7_sheet
set_option maxRecDepth 20000 in
theorem ggL_law_X8_sheet : GoodIn wsL_law wsX8_sheet := goodIn_r _ [847, 112, 113, 114, 848, 849, 5, 850, 143, 144, 145, 1028, 1029, 1030, 1031, 1032, 1033, 1034, 1035, 1036, 1037, 1038, 1039, 1040, 1041, 1042, 1043, 1044, 1045, 1046, 1047, 1048, 1049] (by decide +kernel) (by decide +kernel)
set_option maxRecDepth 20000 in
theorem gL_law_X8_sheet : GoodIn wsL_law (wsV RL 121 RX8 yX8_sheet wsX8_sheet) := goodIn_app (goodIn_of _ (by decide +kernel)) ggL_law_X8_sheet
set_option maxRecDepth 20000 in
theorem ggL_law_X7_drop : GoodIn wsL_law wsX7_drop := goodIn_r _ [854, 34, 855, 856, 831, 832, 2, 833, 1020, 1021, 1022, 1023, 1024, 1025, 1026, 1027, 1082, 1083, 1084, 1085] (by decide +kernel) (by decide +kernel)
set_option maxRecDepth 20000 in
theorem gL_law_X7_drop : GoodIn wsL_law (wsV RL 122 RX7 yX7_drop wsX7_drop) := goodIn_app (goodIn_of _ (by decide +kernel)) ggL_law_X7_drop
set_option maxRecDepth 20000 in
theorem ggL_law_X8_drop : GoodIn wsL_law wsX8_drop := goodIn_r _ [860, 112, 113, 848, 849, 5, 850, 143, 144, 145, 1028, 1029, 1030, 1031, 1032, 1033, 1034, 1035, 1036, 1037, 1038, 1039, 1040, 1041, 1042, 1043, 1044, 1045, 1046, 1047, 1048, 1049] (by decide +kernel) (by decide +kernel)
set_option maxRecDepth 20000 in
theorem gL_law_X8_drop : GoodIn wsL_law (wsV RL 125 RX8 yX8_drop wsX8_drop) := goodIn_app (goodIn_of _ (by decide +kernel)) ggL_law_X8_drop
set_option maxRecDepth 20000 in
theorem ggL_law_X7_item : GoodIn wsL_law wsX7_item := goodIn_r _ [864, 865, 34, 831, 832, 2, 833, 834, 835, 836, 866, 867, 868, 36, 869, 105, 106, 870, 871, 872, 873, 107, 874, 875, 876, 877, 104, 878, 879, 880, 881, 1020, 1021, 1022, 1023, 1024, 1025, 1026, 1027, 1082, 1083, 1084, 1085] (by decide +kernel) (by decide +kernel)
set_option maxRecDepth 20000 in
theorem gL_law_X7_item : GoodIn wsL_law (wsV RL 128 RX7 yX7_item wsX7_item) := goodIn_app (goodIn_of _ (by decide +kernel)) ggL_law_X7_item
set_option maxRecDepth 20000 in
theorem ggL_law_X8_item : GoodIn wsL_law wsX8_item := goodIn_r _ [885, 886, 114, 848, 849, 5, 850, 143, 144, 145, 887, 888, 889, 890, 112, 113, 891, 892, 893, 1028, 1029, 1030, 1031, 1032, 1033, 1034, 1035, 1036, 1037, 1038, 1039, 1040, 1041, 1042, 1043, 1044, 1045, 1046, 1047, 1048, 1049] (by decide +kernel) (by decide +kernel)
set_option maxRecDepth 20000 in
theorem gL_law_X8_item : GoodIn wsL_law (wsV RL 132 RX8 yX8_item wsX8_item) := goodIn_app (goodIn_of _ (by decide +kernel)) ggL_law_X8_item
set_option maxRecDepth 20000 in
theorem ggL_law_X7_copy : GoodIn wsL_law wsX7_copy := goodIn_r _ [897, 34, 855, 898, 899, 900, 525, 526, 527, 831, 832, 2, 833, 901, 871, 872, 36, 873, 107, 1020, 1021, 1022, 1023, 1024, 1025, 1026, 1027, 1082, 1083, 1084, 1085] (by decide +kernel) (by decide +kernel)
set_option maxRecDepth 20000 in
theorem gL_law_X7_copy : GoodIn wsL_law (wsV RL 133 RX7 yX7_copy wsX7_copy) := goodIn_app (goodIn_of _ (by decide +kernel)) ggL_law_X7_copy
set_option maxRecDepth 20000 in
theorem ggL_law_X8_copy : GoodIn wsL_law wsX8_copy := goodIn_r _ [905, 112, 113, 114, 848, 849, 5, 850, 143, 144, 145, 891, 892, 893, 1028, 1029, 1030, 1031, 1032, 1033, 1034, 1035, 1036, 1037, 1038, 1039, 1040, 1041, 1042, 1043, 1044, 1045, 1046, 1047, 1048, 1049] (by decide +kernel) (by decide +kernel)
set_option maxRecDepth 20000 in
theorem gL_law_X8_copy : GoodIn wsL_law (wsV RL 137 RX8 yX8_copy wsX8_copy) := goodIn_app (goodIn_of _ (by decide +kernel)) ggL_law_X8_copy
set_option maxRecDepth 20000 in
theorem ggL_law_X7_log : GoodIn wsL_law wsX7_log := goodIn_r _ [909, 34, 37, 38, 329, 373, 831, 832, 2, 833, 834, 835, 836, 866, 867, 868, 36, 869, 105, 106, 870, 871, 872, 873, 107, 377, 378, 379, 32, 380, 97, 98, 551, 552, 553, 554, 520, 521, 522, 523, 86, 524, 525, 526, 527, 87, 88, 89, 90, 91, 92, 93, 94, 95, 96, 99, 392, 393, 394, 395, 396, 397, 387, 398, 399, 386, 388, 400, 347, 348, 349, 350, 351, 352, 353, 401, 402, 403, 404, 405, 406, 407, 408, 266, 267, 268, 269, 270, 271, 272, 273, 274, 275, 276, 277, 874, 875, 876, 877, 104, 878, 879, 880, 881, 1020, 1021, 1022, 1023, 1024, 1025, 1026, 1027, 1068, 1069, 1070, 1071, 1072, 1073, 1074, 1075, 1076, 1077, 1078, 1079, 1080, 1081, 1082, 1083, 1084, 1085] (by decide +kernel) (by decide +kernel)
set_option maxRecDepth 20000 in
theorem gL_law_X7_log : GoodIn wsL_law (wsV RL 138 RX7 yX7_log wsX7_log) := goodIn_app (goodIn_of _ (by decide +kernel)) ggL_law_X7_log
set_option maxRecDepth 20000 in
theorem ggL_law_X8_log : GoodIn wsL_law wsX8_log := goodIn_r _ [913, 114, 118, 848, 849, 5, 850, 143, 144, 145, 887, 888, 889, 890, 112, 113, 891, 892, 893, 413, 414, 415, 416, 116, 559, 560, 561, 562, 247, 248, 249, 421, 422, 423, 424, 425, 426, 358, 359, 360, 427, 428, 429, 430, 431, 432, 286, 287, 288, 289, 290, 291, 914, 915, 916, 1028, 1029, 1030, 1031, 1032, 1033, 1034, 1035, 1036, 1037, 1038, 1039, 1040, 1041, 1042, 1043, 1044, 1045, 1046, 1047, 1048, 1049] (by decide +kernel) (by decide +kernel)
set_option maxRecDepth 20000 in
theorem gL_law_X8_log : GoodIn wsL_law (wsV RL 141 RX8 yX8_log wsX8_log) := goodIn_app (goodIn_of _ (by decide +kernel)) ggL_law_X8_log
set_option maxRecDepth 20000 in
theorem ggL_law_X7_leans : GoodIn wsL_law wsX7_leans := goodIn_r _ [920, 37, 34, 28, 152, 310, 311, 312, 32, 313, 96, 921, 922, 2, 923, 831, 832, 833, 834, 835, 836, 548, 549, 550, 866, 867, 868, 36, 869, 105, 106, 870, 871, 872, 873, 107, 924, 925, 926, 27, 927, 82, 928, 79, 80, 929, 930, 931, 932, 933, 351, 352, 353, 93, 90, 91, 92, 934, 935, 936, 937, 938, 939, 940, 941, 942, 397, 387, 398, 943, 944, 945, 946, 947, 948, 949, 1020, 1021, 1022, 1023, 1024, 1025, 1026, 1027, 1068, 1069, 1070, 1071, 1072, 1073, 1074, 1075, 1076, 1077, 1078, 1079, 1080, 1081, 1082, 1083, 1084, 1085, 1064, 1065, 1066, 1067] (by decide +kernel) (by decide +kernel)
set_option maxRecDepth 20000 in
theorem gL_law_X7_leans : GoodIn wsL_law (wsV RL 142 RX7 yX7_leans wsX7_leans) := goodIn_app (goodIn_of _ (by decide +kernel)) ggL_law_X7_leans
set_option maxRecDepth 20000 in
theorem ggL_law_X8_leans : GoodIn wsL_law wsX8_leans := goodIn_r _ [953, 116, 318, 319, 320, 5, 321, 143, 144, 145, 848, 849, 850, 887, 888, 889, 890, 112, 113, 891, 892, 893, 954, 955, 956, 957, 114, 958, 959, 960, 961, 962, 963, 964, 965, 358, 359, 360, 966, 967, 968, 969, 619, 620, 621, 612, 613, 614, 1028, 1029, 1030, 1031, 1032, 1033, 1034, 1035, 1036, 1037, 1038, 1039, 1040, 1041, 1042, 1043, 1044, 1045, 1046, 1047, 1048, 1049] (by decide +kernel) (by decide +kernel)
set_option maxRecDepth 20000 in
theorem gL_law_X8_leans : GoodIn wsL_law (wsV RL 146 RX8 yX8_leans wsX8_leans) := goodIn_app (goodIn_of _ (by decide +kernel)) ggL_law_X8_leans
set_option maxRecDepth 20000 in
theorem ggL_law_X7_kinds : GoodIn wsL_law wsX7_kinds := goodIn_r _ [973, 37, 34, 28, 974, 258, 259, 260, 32, 261, 95, 921, 922, 2, 923, 831, 832, 833, 834, 835, 836, 548, 549, 550, 866, 867, 868, 36, 869, 105, 106, 870, 871, 872, 873, 107, 924, 925, 926, 27, 927, 82, 928, 79, 80, 975, 976, 977, 978, 979, 267, 268, 269, 96, 270, 271, 272, 273, 274, 275, 276, 277, 89, 90, 980, 981, 982, 983, 984, 985, 986, 987, 988, 81, 942, 397, 387, 398, 989, 581, 582, 583, 1020, 1021, 1022, 1023, 1024, 1025, 1026, 1027, 1068, 1069, 1070, 1071, 1072, 1073, 1074, 1075, 1076, 1077, 1078, 1079, 1080, 1081, 1082, 1083, 1084, 1085, 1064, 1065, 1066, 1067] (by decide +kernel) (by decide +kernel)
set_option maxRecDepth 20000 in
theorem gL_law_X7_kinds : GoodIn wsL_law (wsV RL 147 RX7 yX7_kinds wsX7_kinds) := goodIn_app (goodIn_of _ (by decide +kernel)) ggL_law_X7_kinds
set_option maxRecDepth 20000 in
theorem ggL_law_X8_kinds : GoodIn wsL_law wsX8_kinds := goodIn_r _ [993, 116, 282, 283, 284, 5, 285, 143, 144, 145, 848, 849, 850, 887, 888, 889, 890, 112, 113, 891, 892, 893, 954, 955, 956, 957, 114, 994, 995, 996, 997, 286, 287, 288, 289, 290, 291, 998, 999, 1000, 1001, 619, 620, 621, 1028, 1029, 1030, 1031, 1032, 1033, 1034, 1035, 1036, 1037, 1038, 1039, 1040, 1041, 1042, 1043, 1044, 1045, 1046, 1047, 1048, 1049] (by decide +kernel) (by decide +kernel)
set_option maxRecDepth 20000 in
theorem gL_law_X8_kinds : GoodIn wsL_law (wsV RL 150 RX8 yX8_kinds wsX8_kinds) := goodIn_app (goodIn_of _ (by decide +kernel)) ggL_law_X8_kinds
set_option maxRecDepth 20000 in
theorem ggL_law_X7_count : GoodIn wsL_law wsX7_count := goodIn_r _ [1005, 37, 1006, 974, 152, 373, 257, 20, 151, 16, 133, 811, 812, 813, 32, 814, 95, 87, 1007, 1008, 1009, 1010, 98, 94, 1011, 662, 663, 664, 93, 91, 92, 1020, 1021, 1022, 1023, 1024, 1025, 1026, 1027, 1068, 1069, 1070, 1071, 1072, 1073, 1074, 1075, 1076, 1077, 1078, 1079, 1080, 1081, 1053, 1054, 1055, 1050, 1051, 1052] (by decide +kernel) (by decide +kernel)
set_option maxRecDepth 20000 in
theorem gL_law_X7_count : GoodIn wsL_law (wsV RL 151 RX7 yX7_count wsX7_count) := goodIn_app (goodIn_of _ (by decide +kernel)) ggL_law_X7_count
set_option maxRecDepth 20000 in
theorem ggL_law_X8_count : GoodIn wsL_law wsX8_count := goodIn_r _ [1015, 116, 215, 142, 824, 825, 5, 826, 1016, 1017, 1018, 1019, 698, 699, 700, 1028, 1029, 1030, 1031, 1032, 1033, 1034, 1035, 1036, 1037, 1038, 1039, 1040, 1041, 1042, 1043, 1044, 1045, 1046, 1047, 1048, 1049] (by decide +kernel) (by decide +kernel)
set_option maxRecDepth 20000 in
theorem gL_law_X8_count : GoodIn wsL_law (wsV RL 154 RX8 yX8_count wsX8_count) := goodIn_app (goodIn_of _ (by decide +kernel)) ggL_law_X8_count
theorem dL_law_0 : decode cL_law 0 = .ok (.new 7, 3) := by decide +kernel
theorem dL_law_3 : decode cL_law 3 = .ok (.dup, 1) := by decide +kernel
theorem dL_law_4 : decode cL_law 4 = .ok (.invokespecial 9, 3) := by decide +kernel
theorem dL_law_7 : decode cL_law 7 = .ok (.astore_n 1, 1) := by decide +kernel
theorem dL_law_8 : decode cL_law 8 = .ok (.new 10, 3) := by decide +kernel
theorem dL_law_11 : decode cL_law 11 = .ok (.dup, 1) := by decide +kernel
theorem dL_law_12 : decode cL_law 12 = .ok (.invokespecial 12, 3) := by decide +kernel
theorem dL_law_15 : decode cL_law 15 = .ok (.astore_n 2, 1) := by decide +kernel
theorem dL_law_16 : decode cL_law 16 = .ok (.iconst 0, 1) := by decide +kernel
theorem dL_law_17 : decode cL_law 17 = .ok (.istore_n 3, 1) := by decide +kernel
theorem dL_law_18 : decode cL_law 18 = .ok (.iload_n 3, 1) := by decide +kernel
theorem dL_law_19 : decode cL_law 19 = .ok (.aload_n 0, 1) := by decide +kernel
theorem dL_law_20 : decode cL_law 20 = .ok (.arraylength, 1) := by decide +kernel
theorem dL_law_21 : decode cL_law 21 = .ok (.bipush 7, 2) := by decide +kernel
theorem dL_law_23 : decode cL_law 23 = .ok (.isub, 1) := by decide +kernel
theorem dL_law_24 : decode cL_law 24 = .ok (.if_icmp .gt 1346, 3) := by decide +kernel
theorem dL_law_27 : decode cL_law 27 = .ok (.aload_n 0, 1) := by decide +kernel
theorem dL_law_28 : decode cL_law 28 = .ok (.iload_n 3, 1) := by decide +kernel
theorem dL_law_29 : decode cL_law 29 = .ok (.iaload, 1) := by decide +kernel
theorem dL_law_30 : decode cL_law 30 = .ok (.bipush 63, 2) := by decide +kernel
theorem dL_law_32 : decode cL_law 32 = .ok (.iand, 1) := by decide +kernel
theorem dL_law_33 : decode cL_law 33 = .ok (.tableswitch 1331 0 32 #[147, 170, 183, 216, 249, 282, 315, 348, 381, 404, 437, 460, 483, 516, 529, 552, 575, 608, 641, 664, 707, 740, 773, 796, 849, 892, 935, 958, 1042, 1105, 1158, 1233, 1308], 147) := by decide +kernel
theorem dL_law_180 : decode cL_law 180 = .ok (.aload_n 1, 1) := by decide +kernel
theorem dL_law_181 : decode cL_law 181 = .ok (.aload_n 0, 1) := by decide +kernel
theorem dL_law_182 : decode cL_law 182 = .ok (.iload_n 3, 1) := by decide +kernel
theorem dL_law_183 : decode cL_law 183 = .ok (.iconst 1, 1) := by decide +kernel
theorem dL_law_184 : decode cL_law 184 = .ok (.iadd, 1) := by decide +kernel
theorem dL_law_185 : decode cL_law 185 = .ok (.iaload, 1) := by decide +kernel
theorem dL_law_186 : decode cL_law 186 = .ok (.invokevirtual 13, 3) := by decide +kernel
theorem dL_law_189 : decode cL_law 189 = .ok (.aload_n 2, 1) := by decide +kernel
theorem dL_law_190 : decode cL_law 190 = .ok (.aload_n 0, 1) := by decide +kernel
theorem dL_law_191 : decode cL_law 191 = .ok (.iload_n 3, 1) := by decide +kernel
theorem dL_law_192 : decode cL_law 192 = .ok (.iconst 1, 1) := by decide +kernel
theorem dL_law_193 : decode cL_law 193 = .ok (.iadd, 1) := by decide +kernel
theorem dL_law_194 : decode cL_law 194 = .ok (.iaload, 1) := by decide +kernel
theorem dL_law_195 : decode cL_law 195 = .ok (.invokevirtual 17, 3) := by decide +kernel
theorem dL_law_198 : decode cL_law 198 = .ok (.if_icmp .eq 1166, 3) := by decide +kernel
theorem dL_law_201 : decode cL_law 201 = .ok (.iconst 0, 1) := by decide +kernel
theorem dL_law_202 : decode cL_law 202 = .ok (.ireturn, 1) := by decide +kernel
theorem dL_law_203 : decode cL_law 203 = .ok (.aload_n 1, 1) := by decide +kernel
theorem dL_law_204 : decode cL_law 204 = .ok (.invokevirtual 18, 3) := by decide +kernel
theorem dL_law_207 : decode cL_law 207 = .ok (.aload_n 2, 1) := by decide +kernel
theorem dL_law_208 : decode cL_law 208 = .ok (.invokevirtual 22, 3) := by decide +kernel
theorem dL_law_211 : decode cL_law 211 = .ok (.if_icmp .eq 1153, 3) := by decide +kernel
theorem dL_law_214 : decode cL_law 214 = .ok (.iconst 0, 1) := by decide +kernel
theorem dL_law_215 : decode cL_law 215 = .ok (.ireturn, 1) := by decide +kernel
theorem dL_law_216 : decode cL_law 216 = .ok (.aload_n 1, 1) := by decide +kernel
theorem dL_law_217 : decode cL_law 217 = .ok (.aload_n 0, 1) := by decide +kernel
theorem dL_law_218 : decode cL_law 218 = .ok (.iload_n 3, 1) := by decide +kernel
theorem dL_law_219 : decode cL_law 219 = .ok (.iconst 1, 1) := by decide +kernel
theorem dL_law_220 : decode cL_law 220 = .ok (.iadd, 1) := by decide +kernel
theorem dL_law_221 : decode cL_law 221 = .ok (.iaload, 1) := by decide +kernel
theorem dL_law_222 : decode cL_law 222 = .ok (.aload_n 0, 1) := by decide +kernel
theorem dL_law_223 : decode cL_law 223 = .ok (.iload_n 3, 1) := by decide +kernel
theorem dL_law_224 : decode cL_law 224 = .ok (.iconst 2, 1) := by decide +kernel
theorem dL_law_225 : decode cL_law 225 = .ok (.iadd, 1) := by decide +kernel
theorem dL_law_226 : decode cL_law 226 = .ok (.iaload, 1) := by decide +kernel
theorem dL_law_227 : decode cL_law 227 = .ok (.invokevirtual 23, 3) := by decide +kernel
theorem dL_law_230 : decode cL_law 230 = .ok (.aload_n 2, 1) := by decide +kernel
theorem dL_law_231 : decode cL_law 231 = .ok (.aload_n 0, 1) := by decide +kernel
theorem dL_law_232 : decode cL_law 232 = .ok (.iload_n 3, 1) := by decide +kernel
theorem dL_law_233 : decode cL_law 233 = .ok (.iconst 1, 1) := by decide +kernel
theorem dL_law_234 : decode cL_law 234 = .ok (.iadd, 1) := by decide +kernel
theorem dL_law_235 : decode cL_law 235 = .ok (.iaload, 1) := by decide +kernel
theorem dL_law_236 : decode cL_law 236 = .ok (.aload_n 0, 1) := by decide +kernel
theorem dL_law_237 : decode cL_law 237 = .ok (.iload_n 3, 1) := by decide +kernel
theorem dL_law_238 : decode cL_law 238 = .ok (.iconst 2, 1) := by decide +kernel
theorem dL_law_239 : decode cL_law 239 = .ok (.iadd, 1) := by decide +kernel
theorem dL_law_240 : decode cL_law 240 = .ok (.iaload, 1) := by decide +kernel
theorem dL_law_241 : decode cL_law 241 = .ok (.invokevirtual 27, 3) := by decide +kernel
theorem dL_law_244 : decode cL_law 244 = .ok (.if_icmp .eq 1120, 3) := by decide +kernel
theorem dL_law_247 : decode cL_law 247 = .ok (.iconst 0, 1) := by decide +kernel
theorem dL_law_248 : decode cL_law 248 = .ok (.ireturn, 1) := by decide +kernel
theorem dL_law_249 : decode cL_law 249 = .ok (.aload_n 1, 1) := by decide +kernel
theorem dL_law_250 : decode cL_law 250 = .ok (.aload_n 0, 1) := by decide +kernel
theorem dL_law_251 : decode cL_law 251 = .ok (.iload_n 3, 1) := by decide +kernel
theorem dL_law_252 : decode cL_law 252 = .ok (.iconst 1, 1) := by decide +kernel
theorem dL_law_253 : decode cL_law 253 = .ok (.iadd, 1) := by decide +kernel
theorem dL_law_254 : decode cL_law 254 = .ok (.iaload, 1) := by decide +kernel
theorem dL_law_255 : decode cL_law 255 = .ok (.aload_n 0, 1) := by decide +kernel
theorem dL_law_256 : decode cL_law 256 = .ok (.iload_n 3, 1) := by decide +kernel
theorem dL_law_257 : decode cL_law 257 = .ok (.iconst 2, 1) := by decide +kernel
theorem dL_law_258 : decode cL_law 258 = .ok (.iadd, 1) := by decide +kernel
theorem dL_law_259 : decode cL_law 259 = .ok (.iaload, 1) := by decide +kernel
theorem dL_law_260 : decode cL_law 260 = .ok (.invokevirtual 28, 3) := by decide +kernel
theorem dL_law_263 : decode cL_law 263 = .ok (.aload_n 2, 1) := by decide +kernel
theorem dL_law_264 : decode cL_law 264 = .ok (.aload_n 0, 1) := by decide +kernel
theorem dL_law_265 : decode cL_law 265 = .ok (.iload_n 3, 1) := by decide +kernel
theorem dL_law_266 : decode cL_law 266 = .ok (.iconst 1, 1) := by decide +kernel
theorem dL_law_267 : decode cL_law 267 = .ok (.iadd, 1) := by decide +kernel
theorem dL_law_268 : decode cL_law 268 = .ok (.iaload, 1) := by decide +kernel
theorem dL_law_269 : decode cL_law 269 = .ok (.aload_n 0, 1) := by decide +kernel
theorem dL_law_270 : decode cL_law 270 = .ok (.iload_n 3, 1) := by decide +kernel
theorem dL_law_271 : decode cL_law 271 = .ok (.iconst 2, 1) := by decide +kernel
theorem dL_law_272 : decode cL_law 272 = .ok (.iadd, 1) := by decide +kernel
theorem dL_law_273 : decode cL_law 273 = .ok (.iaload, 1) := by decide +kernel
theorem dL_law_274 : decode cL_law 274 = .ok (.invokevirtual 31, 3) := by decide +kernel
theorem dL_law_277 : decode cL_law 277 = .ok (.if_icmp .eq 1087, 3) := by decide +kernel
theorem dL_law_280 : decode cL_law 280 = .ok (.iconst 0, 1) := by decide +kernel
theorem dL_law_281 : decode cL_law 281 = .ok (.ireturn, 1) := by decide +kernel
theorem dL_law_282 : decode cL_law 282 = .ok (.aload_n 1, 1) := by decide +kernel
theorem dL_law_283 : decode cL_law 283 = .ok (.aload_n 0, 1) := by decide +kernel
theorem dL_law_284 : decode cL_law 284 = .ok (.iload_n 3, 1) := by decide +kernel
theorem dL_law_285 : decode cL_law 285 = .ok (.iconst 1, 1) := by decide +kernel
theorem dL_law_286 : decode cL_law 286 = .ok (.iadd, 1) := by decide +kernel
theorem dL_law_287 : decode cL_law 287 = .ok (.iaload, 1) := by decide +kernel
theorem dL_law_288 : decode cL_law 288 = .ok (.aload_n 0, 1) := by decide +kernel
theorem dL_law_289 : decode cL_law 289 = .ok (.iload_n 3, 1) := by decide +kernel
theorem dL_law_290 : decode cL_law 290 = .ok (.iconst 2, 1) := by decide +kernel
theorem dL_law_291 : decode cL_law 291 = .ok (.iadd, 1) := by decide +kernel
theorem dL_law_292 : decode cL_law 292 = .ok (.iaload, 1) := by decide +kernel
theorem dL_law_293 : decode cL_law 293 = .ok (.invokevirtual 32, 3) := by decide +kernel
theorem dL_law_296 : decode cL_law 296 = .ok (.aload_n 2, 1) := by decide +kernel
theorem dL_law_297 : decode cL_law 297 = .ok (.aload_n 0, 1) := by decide +kernel
theorem dL_law_298 : decode cL_law 298 = .ok (.iload_n 3, 1) := by decide +kernel
theorem dL_law_299 : decode cL_law 299 = .ok (.iconst 1, 1) := by decide +kernel
theorem dL_law_300 : decode cL_law 300 = .ok (.iadd, 1) := by decide +kernel
theorem dL_law_301 : decode cL_law 301 = .ok (.iaload, 1) := by decide +kernel
theorem dL_law_302 : decode cL_law 302 = .ok (.aload_n 0, 1) := by decide +kernel
theorem dL_law_303 : decode cL_law 303 = .ok (.iload_n 3, 1) := by decide +kernel
theorem dL_law_304 : decode cL_law 304 = .ok (.iconst 2, 1) := by decide +kernel
theorem dL_law_305 : decode cL_law 305 = .ok (.iadd, 1) := by decide +kernel
theorem dL_law_306 : decode cL_law 306 = .ok (.iaload, 1) := by decide +kernel
theorem dL_law_307 : decode cL_law 307 = .ok (.invokevirtual 35, 3) := by decide +kernel
theorem dL_law_310 : decode cL_law 310 = .ok (.if_icmp .eq 1054, 3) := by decide +kernel
theorem dL_law_313 : decode cL_law 313 = .ok (.iconst 0, 1) := by decide +kernel
theorem dL_law_314 : decode cL_law 314 = .ok (.ireturn, 1) := by decide +kernel
theorem dL_law_315 : decode cL_law 315 = .ok (.aload_n 1, 1) := by decide +kernel
theorem dL_law_316 : decode cL_law 316 = .ok (.aload_n 0, 1) := by decide +kernel
theorem dL_law_317 : decode cL_law 317 = .ok (.iload_n 3, 1) := by decide +kernel
theorem dL_law_318 : decode cL_law 318 = .ok (.iconst 1, 1) := by decide +kernel
theorem dL_law_319 : decode cL_law 319 = .ok (.iadd, 1) := by decide +kernel
theorem dL_law_320 : decode cL_law 320 = .ok (.iaload, 1) := by decide +kernel
theorem dL_law_321 : decode cL_law 321 = .ok (.aload_n 0, 1) := by decide +kernel
theorem dL_law_322 : decode cL_law 322 = .ok (.iload_n 3, 1) := by decide +kernel
theorem dL_law_323 : decode cL_law 323 = .ok (.iconst 2, 1) := by decide +kernel
theorem dL_law_324 : decode cL_law 324 = .ok (.iadd, 1) := by decide +kernel
theorem dL_law_325 : decode cL_law 325 = .ok (.iaload, 1) := by decide +kernel
theorem dL_law_326 : decode cL_law 326 = .ok (.invokevirtual 36, 3) := by decide +kernel
theorem dL_law_329 : decode cL_law 329 = .ok (.aload_n 2, 1) := by decide +kernel
theorem dL_law_330 : decode cL_law 330 = .ok (.aload_n 0, 1) := by decide +kernel
theorem dL_law_331 : decode cL_law 331 = .ok (.iload_n 3, 1) := by decide +kernel
theorem dL_law_332 : decode cL_law 332 = .ok (.iconst 1, 1) := by decide +kernel
theorem dL_law_333 : decode cL_law 333 = .ok (.iadd, 1) := by decide +kernel
theorem dL_law_334 : decode cL_law 334 = .ok (.iaload, 1) := by decide +kernel
theorem dL_law_335 : decode cL_law 335 = .ok (.aload_n 0, 1) := by decide +kernel
theorem dL_law_336 : decode cL_law 336 = .ok (.iload_n 3, 1) := by decide +kernel
theorem dL_law_337 : decode cL_law 337 = .ok (.iconst 2, 1) := by decide +kernel
theorem dL_law_338 : decode cL_law 338 = .ok (.iadd, 1) := by decide +kernel
theorem dL_law_339 : decode cL_law 339 = .ok (.iaload, 1) := by decide +kernel
theorem dL_law_340 : decode cL_law 340 = .ok (.invokevirtual 39, 3) := by decide +kernel
theorem dL_law_343 : decode cL_law 343 = .ok (.if_icmp .eq 1021, 3) := by decide +kernel
theorem dL_law_346 : decode cL_law 346 = .ok (.iconst 0, 1) := by decide +kernel
theorem dL_law_347 : decode cL_law 347 = .ok (.ireturn, 1) := by decide +kernel
theorem dL_law_348 : decode cL_law 348 = .ok (.aload_n 1, 1) := by decide +kernel
theorem dL_law_349 : decode cL_law 349 = .ok (.aload_n 0, 1) := by decide +kernel
theorem dL_law_350 : decode cL_law 350 = .ok (.iload_n 3, 1) := by decide +kernel
theorem dL_law_351 : decode cL_law 351 = .ok (.iconst 1, 1) := by decide +kernel
theorem dL_law_352 : decode cL_law 352 = .ok (.iadd, 1) := by decide +kernel
theorem dL_law_353 : decode cL_law 353 = .ok (.iaload, 1) := by decide +kernel
theorem dL_law_354 : decode cL_law 354 = .ok (.aload_n 0, 1) := by decide +kernel
theorem dL_law_355 : decode cL_law 355 = .ok (.iload_n 3, 1) := by decide +kernel
theorem dL_law_356 : decode cL_law 356 = .ok (.iconst 2, 1) := by decide +kernel
theorem dL_law_357 : decode cL_law 357 = .ok (.iadd, 1) := by decide +kernel
theorem dL_law_358 : decode cL_law 358 = .ok (.iaload, 1) := by decide +kernel
theorem dL_law_359 : decode cL_law 359 = .ok (.invokevirtual 40, 3) := by decide +kernel
theorem dL_law_362 : decode cL_law 362 = .ok (.aload_n 2, 1) := by decide +kernel
theorem dL_law_363 : decode cL_law 363 = .ok (.aload_n 0, 1) := by decide +kernel
theorem dL_law_364 : decode cL_law 364 = .ok (.iload_n 3, 1) := by decide +kernel
theorem dL_law_365 : decode cL_law 365 = .ok (.iconst 1, 1) := by decide +kernel
theorem dL_law_366 : decode cL_law 366 = .ok (.iadd, 1) := by decide +kernel
theorem dL_law_367 : decode cL_law 367 = .ok (.iaload, 1) := by decide +kernel
theorem dL_law_368 : decode cL_law 368 = .ok (.aload_n 0, 1) := by decide +kernel
theorem dL_law_369 : decode cL_law 369 = .ok (.iload_n 3, 1) := by decide +kernel
theorem dL_law_370 : decode cL_law 370 = .ok (.iconst 2, 1) := by decide +kernel
theorem dL_law_371 : decode cL_law 371 = .ok (.iadd, 1) := by decide +kernel
theorem dL_law_372 : decode cL_law 372 = .ok (.iaload, 1) := by decide +kernel
theorem dL_law_373 : decode cL_law 373 = .ok (.invokevirtual 43, 3) := by decide +kernel
theorem dL_law_376 : decode cL_law 376 = .ok (.if_icmp .eq 988, 3) := by decide +kernel
theorem dL_law_379 : decode cL_law 379 = .ok (.iconst 0, 1) := by decide +kernel
theorem dL_law_380 : decode cL_law 380 = .ok (.ireturn, 1) := by decide +kernel
theorem dL_law_381 : decode cL_law 381 = .ok (.aload_n 1, 1) := by decide +kernel
theorem dL_law_382 : decode cL_law 382 = .ok (.aload_n 0, 1) := by decide +kernel
theorem dL_law_383 : decode cL_law 383 = .ok (.iload_n 3, 1) := by decide +kernel
theorem dL_law_384 : decode cL_law 384 = .ok (.iconst 1, 1) := by decide +kernel
theorem dL_law_385 : decode cL_law 385 = .ok (.iadd, 1) := by decide +kernel
theorem dL_law_386 : decode cL_law 386 = .ok (.iaload, 1) := by decide +kernel
theorem dL_law_387 : decode cL_law 387 = .ok (.aload_n 0, 1) := by decide +kernel
theorem dL_law_388 : decode cL_law 388 = .ok (.iload_n 3, 1) := by decide +kernel
theorem dL_law_389 : decode cL_law 389 = .ok (.iconst 2, 1) := by decide +kernel
theorem dL_law_390 : decode cL_law 390 = .ok (.iadd, 1) := by decide +kernel
theorem dL_law_391 : decode cL_law 391 = .ok (.iaload, 1) := by decide +kernel
theorem dL_law_392 : decode cL_law 392 = .ok (.invokevirtual 44, 3) := by decide +kernel
theorem dL_law_395 : decode cL_law 395 = .ok (.aload_n 2, 1) := by decide +kernel
theorem dL_law_396 : decode cL_law 396 = .ok (.aload_n 0, 1) := by decide +kernel
theorem dL_law_397 : decode cL_law 397 = .ok (.iload_n 3, 1) := by decide +kernel
theorem dL_law_398 : decode cL_law 398 = .ok (.iconst 1, 1) := by decide +kernel
theorem dL_law_399 : decode cL_law 399 = .ok (.iadd, 1) := by decide +kernel
theorem dL_law_400 : decode cL_law 400 = .ok (.iaload, 1) := by decide +kernel
theorem dL_law_401 : decode cL_law 401 = .ok (.aload_n 0, 1) := by decide +kernel
theorem dL_law_402 : decode cL_law 402 = .ok (.iload_n 3, 1) := by decide +kernel
theorem dL_law_403 : decode cL_law 403 = .ok (.iconst 2, 1) := by decide +kernel
theorem dL_law_404 : decode cL_law 404 = .ok (.iadd, 1) := by decide +kernel
theorem dL_law_405 : decode cL_law 405 = .ok (.iaload, 1) := by decide +kernel
theorem dL_law_406 : decode cL_law 406 = .ok (.invokevirtual 47, 3) := by decide +kernel
theorem dL_law_409 : decode cL_law 409 = .ok (.if_icmp .eq 955, 3) := by decide +kernel
theorem dL_law_412 : decode cL_law 412 = .ok (.iconst 0, 1) := by decide +kernel
theorem dL_law_413 : decode cL_law 413 = .ok (.ireturn, 1) := by decide +kernel
theorem dL_law_414 : decode cL_law 414 = .ok (.aload_n 1, 1) := by decide +kernel
theorem dL_law_415 : decode cL_law 415 = .ok (.aload_n 0, 1) := by decide +kernel
theorem dL_law_416 : decode cL_law 416 = .ok (.iload_n 3, 1) := by decide +kernel
theorem dL_law_417 : decode cL_law 417 = .ok (.iconst 1, 1) := by decide +kernel
theorem dL_law_418 : decode cL_law 418 = .ok (.iadd, 1) := by decide +kernel
theorem dL_law_419 : decode cL_law 419 = .ok (.iaload, 1) := by decide +kernel
theorem dL_law_420 : decode cL_law 420 = .ok (.invokevirtual 48, 3) := by decide +kernel
theorem dL_law_423 : decode cL_law 423 = .ok (.aload_n 2, 1) := by decide +kernel
theorem dL_law_424 : decode cL_law 424 = .ok (.aload_n 0, 1) := by decide +kernel
theorem dL_law_425 : decode cL_law 425 = .ok (.iload_n 3, 1) := by decide +kernel
theorem dL_law_426 : decode cL_law 426 = .ok (.iconst 1, 1) := by decide +kernel
theorem dL_law_427 : decode cL_law 427 = .ok (.iadd, 1) := by decide +kernel
theorem dL_law_428 : decode cL_law 428 = .ok (.iaload, 1) := by decide +kernel
theorem dL_law_429 : decode cL_law 429 = .ok (.invokevirtual 51, 3) := by decide +kernel
theorem dL_law_432 : decode cL_law 432 = .ok (.if_icmp .eq 932, 3) := by decide +kernel
theorem dL_law_435 : decode cL_law 435 = .ok (.iconst 0, 1) := by decide +kernel
theorem dL_law_436 : decode cL_law 436 = .ok (.ireturn, 1) := by decide +kernel
theorem dL_law_437 : decode cL_law 437 = .ok (.aload_n 1, 1) := by decide +kernel
theorem dL_law_438 : decode cL_law 438 = .ok (.aload_n 0, 1) := by decide +kernel
theorem dL_law_439 : decode cL_law 439 = .ok (.iload_n 3, 1) := by decide +kernel
theorem dL_law_440 : decode cL_law 440 = .ok (.iconst 1, 1) := by decide +kernel
theorem dL_law_441 : decode cL_law 441 = .ok (.iadd, 1) := by decide +kernel
theorem dL_law_442 : decode cL_law 442 = .ok (.iaload, 1) := by decide +kernel
theorem dL_law_443 : decode cL_law 443 = .ok (.aload_n 0, 1) := by decide +kernel
theorem dL_law_444 : decode cL_law 444 = .ok (.iload_n 3, 1) := by decide +kernel
theorem dL_law_445 : decode cL_law 445 = .ok (.iconst 2, 1) := by decide +kernel
theorem dL_law_446 : decode cL_law 446 = .ok (.iadd, 1) := by decide +kernel
theorem dL_law_447 : decode cL_law 447 = .ok (.iaload, 1) := by decide +kernel
theorem dL_law_448 : decode cL_law 448 = .ok (.invokevirtual 52, 3) := by decide +kernel
theorem dL_law_451 : decode cL_law 451 = .ok (.aload_n 2, 1) := by decide +kernel
theorem dL_law_452 : decode cL_law 452 = .ok (.aload_n 0, 1) := by decide +kernel
theorem dL_law_453 : decode cL_law 453 = .ok (.iload_n 3, 1) := by decide +kernel
theorem dL_law_454 : decode cL_law 454 = .ok (.iconst 1, 1) := by decide +kernel
theorem dL_law_455 : decode cL_law 455 = .ok (.iadd, 1) := by decide +kernel
theorem dL_law_456 : decode cL_law 456 = .ok (.iaload, 1) := by decide +kernel
theorem dL_law_457 : decode cL_law 457 = .ok (.aload_n 0, 1) := by decide +kernel
theorem dL_law_458 : decode cL_law 458 = .ok (.iload_n 3, 1) := by decide +kernel
theorem dL_law_459 : decode cL_law 459 = .ok (.iconst 2, 1) := by decide +kernel
theorem dL_law_460 : decode cL_law 460 = .ok (.iadd, 1) := by decide +kernel
theorem dL_law_461 : decode cL_law 461 = .ok (.iaload, 1) := by decide +kernel
theorem dL_law_462 : decode cL_law 462 = .ok (.invokevirtual 55, 3) := by decide +kernel
theorem dL_law_465 : decode cL_law 465 = .ok (.if_icmp .eq 899, 3) := by decide +kernel
theorem dL_law_468 : decode cL_law 468 = .ok (.iconst 0, 1) := by decide +kernel
theorem dL_law_469 : decode cL_law 469 = .ok (.ireturn, 1) := by decide +kernel
theorem dL_law_470 : decode cL_law 470 = .ok (.aload_n 1, 1) := by decide +kernel
theorem dL_law_471 : decode cL_law 471 = .ok (.aload_n 0, 1) := by decide +kernel
theorem dL_law_472 : decode cL_law 472 = .ok (.iload_n 3, 1) := by decide +kernel
theorem dL_law_473 : decode cL_law 473 = .ok (.iconst 1, 1) := by decide +kernel
theorem dL_law_474 : decode cL_law 474 = .ok (.iadd, 1) := by decide +kernel
theorem dL_law_475 : decode cL_law 475 = .ok (.iaload, 1) := by decide +kernel
theorem dL_law_476 : decode cL_law 476 = .ok (.invokevirtual 56, 3) := by decide +kernel
theorem dL_law_479 : decode cL_law 479 = .ok (.aload_n 2, 1) := by decide +kernel
theorem dL_law_480 : decode cL_law 480 = .ok (.aload_n 0, 1) := by decide +kernel
theorem dL_law_481 : decode cL_law 481 = .ok (.iload_n 3, 1) := by decide +kernel
theorem dL_law_482 : decode cL_law 482 = .ok (.iconst 1, 1) := by decide +kernel
theorem dL_law_483 : decode cL_law 483 = .ok (.iadd, 1) := by decide +kernel
theorem dL_law_484 : decode cL_law 484 = .ok (.iaload, 1) := by decide +kernel
theorem dL_law_485 : decode cL_law 485 = .ok (.invokevirtual 59, 3) := by decide +kernel
theorem dL_law_488 : decode cL_law 488 = .ok (.if_icmp .eq 876, 3) := by decide +kernel
theorem dL_law_491 : decode cL_law 491 = .ok (.iconst 0, 1) := by decide +kernel
theorem dL_law_492 : decode cL_law 492 = .ok (.ireturn, 1) := by decide +kernel
theorem dL_law_493 : decode cL_law 493 = .ok (.aload_n 1, 1) := by decide +kernel
theorem dL_law_494 : decode cL_law 494 = .ok (.aload_n 0, 1) := by decide +kernel
theorem dL_law_495 : decode cL_law 495 = .ok (.iload_n 3, 1) := by decide +kernel
theorem dL_law_496 : decode cL_law 496 = .ok (.iconst 1, 1) := by decide +kernel
theorem dL_law_497 : decode cL_law 497 = .ok (.iadd, 1) := by decide +kernel
theorem dL_law_498 : decode cL_law 498 = .ok (.iaload, 1) := by decide +kernel
theorem dL_law_499 : decode cL_law 499 = .ok (.invokevirtual 60, 3) := by decide +kernel
theorem dL_law_502 : decode cL_law 502 = .ok (.aload_n 2, 1) := by decide +kernel
theorem dL_law_503 : decode cL_law 503 = .ok (.aload_n 0, 1) := by decide +kernel
theorem dL_law_504 : decode cL_law 504 = .ok (.iload_n 3, 1) := by decide +kernel
theorem dL_law_505 : decode cL_law 505 = .ok (.iconst 1, 1) := by decide +kernel
theorem dL_law_506 : decode cL_law 506 = .ok (.iadd, 1) := by decide +kernel
theorem dL_law_507 : decode cL_law 507 = .ok (.iaload, 1) := by decide +kernel
theorem dL_law_508 : decode cL_law 508 = .ok (.invokevirtual 63, 3) := by decide +kernel
theorem dL_law_511 : decode cL_law 511 = .ok (.if_icmp .eq 853, 3) := by decide +kernel
theorem dL_law_514 : decode cL_law 514 = .ok (.iconst 0, 1) := by decide +kernel
theorem dL_law_515 : decode cL_law 515 = .ok (.ireturn, 1) := by decide +kernel
theorem dL_law_516 : decode cL_law 516 = .ok (.aload_n 1, 1) := by decide +kernel
theorem dL_law_517 : decode cL_law 517 = .ok (.aload_n 0, 1) := by decide +kernel
theorem dL_law_518 : decode cL_law 518 = .ok (.iload_n 3, 1) := by decide +kernel
theorem dL_law_519 : decode cL_law 519 = .ok (.iconst 1, 1) := by decide +kernel
theorem dL_law_520 : decode cL_law 520 = .ok (.iadd, 1) := by decide +kernel
theorem dL_law_521 : decode cL_law 521 = .ok (.iaload, 1) := by decide +kernel
theorem dL_law_522 : decode cL_law 522 = .ok (.aload_n 0, 1) := by decide +kernel
theorem dL_law_523 : decode cL_law 523 = .ok (.iload_n 3, 1) := by decide +kernel
theorem dL_law_524 : decode cL_law 524 = .ok (.iconst 2, 1) := by decide +kernel
theorem dL_law_525 : decode cL_law 525 = .ok (.iadd, 1) := by decide +kernel
theorem dL_law_526 : decode cL_law 526 = .ok (.iaload, 1) := by decide +kernel
theorem dL_law_527 : decode cL_law 527 = .ok (.invokevirtual 64, 3) := by decide +kernel
theorem dL_law_530 : decode cL_law 530 = .ok (.aload_n 2, 1) := by decide +kernel
theorem dL_law_531 : decode cL_law 531 = .ok (.aload_n 0, 1) := by decide +kernel
theorem dL_law_532 : decode cL_law 532 = .ok (.iload_n 3, 1) := by decide +kernel
theorem dL_law_533 : decode cL_law 533 = .ok (.iconst 1, 1) := by decide +kernel
theorem dL_law_534 : decode cL_law 534 = .ok (.iadd, 1) := by decide +kernel
theorem dL_law_535 : decode cL_law 535 = .ok (.iaload, 1) := by decide +kernel
theorem dL_law_536 : decode cL_law 536 = .ok (.aload_n 0, 1) := by decide +kernel
theorem dL_law_537 : decode cL_law 537 = .ok (.iload_n 3, 1) := by decide +kernel
theorem dL_law_538 : decode cL_law 538 = .ok (.iconst 2, 1) := by decide +kernel
theorem dL_law_539 : decode cL_law 539 = .ok (.iadd, 1) := by decide +kernel
theorem dL_law_540 : decode cL_law 540 = .ok (.iaload, 1) := by decide +kernel
theorem dL_law_541 : decode cL_law 541 = .ok (.invokevirtual 67, 3) := by decide +kernel
theorem dL_law_544 : decode cL_law 544 = .ok (.if_icmp .eq 820, 3) := by decide +kernel
theorem dL_law_547 : decode cL_law 547 = .ok (.iconst 0, 1) := by decide +kernel
theorem dL_law_548 : decode cL_law 548 = .ok (.ireturn, 1) := by decide +kernel
theorem dL_law_549 : decode cL_law 549 = .ok (.aload_n 1, 1) := by decide +kernel
theorem dL_law_550 : decode cL_law 550 = .ok (.invokevirtual 68, 3) := by decide +kernel
theorem dL_law_553 : decode cL_law 553 = .ok (.aload_n 2, 1) := by decide +kernel
theorem dL_law_554 : decode cL_law 554 = .ok (.invokevirtual 71, 3) := by decide +kernel
theorem dL_law_557 : decode cL_law 557 = .ok (.if_icmp .eq 807, 3) := by decide +kernel
theorem dL_law_560 : decode cL_law 560 = .ok (.iconst 0, 1) := by decide +kernel
theorem dL_law_561 : decode cL_law 561 = .ok (.ireturn, 1) := by decide +kernel
theorem dL_law_562 : decode cL_law 562 = .ok (.aload_n 1, 1) := by decide +kernel
theorem dL_law_563 : decode cL_law 563 = .ok (.aload_n 0, 1) := by decide +kernel
theorem dL_law_564 : decode cL_law 564 = .ok (.iload_n 3, 1) := by decide +kernel
theorem dL_law_565 : decode cL_law 565 = .ok (.iconst 1, 1) := by decide +kernel
theorem dL_law_566 : decode cL_law 566 = .ok (.iadd, 1) := by decide +kernel
theorem dL_law_567 : decode cL_law 567 = .ok (.iaload, 1) := by decide +kernel
theorem dL_law_568 : decode cL_law 568 = .ok (.invokevirtual 72, 3) := by decide +kernel
theorem dL_law_571 : decode cL_law 571 = .ok (.aload_n 2, 1) := by decide +kernel
theorem dL_law_572 : decode cL_law 572 = .ok (.aload_n 0, 1) := by decide +kernel
theorem dL_law_573 : decode cL_law 573 = .ok (.iload_n 3, 1) := by decide +kernel
theorem dL_law_574 : decode cL_law 574 = .ok (.iconst 1, 1) := by decide +kernel
theorem dL_law_575 : decode cL_law 575 = .ok (.iadd, 1) := by decide +kernel
theorem dL_law_576 : decode cL_law 576 = .ok (.iaload, 1) := by decide +kernel
theorem dL_law_577 : decode cL_law 577 = .ok (.invokevirtual 75, 3) := by decide +kernel
theorem dL_law_580 : decode cL_law 580 = .ok (.if_icmp .eq 784, 3) := by decide +kernel
theorem dL_law_583 : decode cL_law 583 = .ok (.iconst 0, 1) := by decide +kernel
theorem dL_law_584 : decode cL_law 584 = .ok (.ireturn, 1) := by decide +kernel
theorem dL_law_585 : decode cL_law 585 = .ok (.aload_n 1, 1) := by decide +kernel
theorem dL_law_586 : decode cL_law 586 = .ok (.aload_n 0, 1) := by decide +kernel
theorem dL_law_587 : decode cL_law 587 = .ok (.iload_n 3, 1) := by decide +kernel
theorem dL_law_588 : decode cL_law 588 = .ok (.iconst 1, 1) := by decide +kernel
theorem dL_law_589 : decode cL_law 589 = .ok (.iadd, 1) := by decide +kernel
theorem dL_law_590 : decode cL_law 590 = .ok (.iaload, 1) := by decide +kernel
theorem dL_law_591 : decode cL_law 591 = .ok (.invokevirtual 76, 3) := by decide +kernel
theorem dL_law_594 : decode cL_law 594 = .ok (.aload_n 2, 1) := by decide +kernel
theorem dL_law_595 : decode cL_law 595 = .ok (.aload_n 0, 1) := by decide +kernel
theorem dL_law_596 : decode cL_law 596 = .ok (.iload_n 3, 1) := by decide +kernel
theorem dL_law_597 : decode cL_law 597 = .ok (.iconst 1, 1) := by decide +kernel
theorem dL_law_598 : decode cL_law 598 = .ok (.iadd, 1) := by decide +kernel
theorem dL_law_599 : decode cL_law 599 = .ok (.iaload, 1) := by decide +kernel
theorem dL_law_600 : decode cL_law 600 = .ok (.invokevirtual 79, 3) := by decide +kernel
theorem dL_law_603 : decode cL_law 603 = .ok (.if_icmp .eq 761, 3) := by decide +kernel
theorem dL_law_606 : decode cL_law 606 = .ok (.iconst 0, 1) := by decide +kernel
theorem dL_law_607 : decode cL_law 607 = .ok (.ireturn, 1) := by decide +kernel
theorem dL_law_608 : decode cL_law 608 = .ok (.aload_n 1, 1) := by decide +kernel
theorem dL_law_609 : decode cL_law 609 = .ok (.aload_n 0, 1) := by decide +kernel
theorem dL_law_610 : decode cL_law 610 = .ok (.iload_n 3, 1) := by decide +kernel
theorem dL_law_611 : decode cL_law 611 = .ok (.iconst 1, 1) := by decide +kernel
theorem dL_law_612 : decode cL_law 612 = .ok (.iadd, 1) := by decide +kernel
theorem dL_law_613 : decode cL_law 613 = .ok (.iaload, 1) := by decide +kernel
theorem dL_law_614 : decode cL_law 614 = .ok (.aload_n 0, 1) := by decide +kernel
theorem dL_law_615 : decode cL_law 615 = .ok (.iload_n 3, 1) := by decide +kernel
theorem dL_law_616 : decode cL_law 616 = .ok (.iconst 2, 1) := by decide +kernel
theorem dL_law_617 : decode cL_law 617 = .ok (.iadd, 1) := by decide +kernel
theorem dL_law_618 : decode cL_law 618 = .ok (.iaload, 1) := by decide +kernel
theorem dL_law_619 : decode cL_law 619 = .ok (.invokevirtual 80, 3) := by decide +kernel
theorem dL_law_622 : decode cL_law 622 = .ok (.aload_n 2, 1) := by decide +kernel
theorem dL_law_623 : decode cL_law 623 = .ok (.aload_n 0, 1) := by decide +kernel
theorem dL_law_624 : decode cL_law 624 = .ok (.iload_n 3, 1) := by decide +kernel
theorem dL_law_625 : decode cL_law 625 = .ok (.iconst 1, 1) := by decide +kernel
theorem dL_law_626 : decode cL_law 626 = .ok (.iadd, 1) := by decide +kernel
theorem dL_law_627 : decode cL_law 627 = .ok (.iaload, 1) := by decide +kernel
theorem dL_law_628 : decode cL_law 628 = .ok (.aload_n 0, 1) := by decide +kernel
theorem dL_law_629 : decode cL_law 629 = .ok (.iload_n 3, 1) := by decide +kernel
theorem dL_law_630 : decode cL_law 630 = .ok (.iconst 2, 1) := by decide +kernel
theorem dL_law_631 : decode cL_law 631 = .ok (.iadd, 1) := by decide +kernel
theorem dL_law_632 : decode cL_law 632 = .ok (.iaload, 1) := by decide +kernel
theorem dL_law_633 : decode cL_law 633 = .ok (.invokevirtual 83, 3) := by decide +kernel
theorem dL_law_636 : decode cL_law 636 = .ok (.if_icmp .eq 728, 3) := by decide +kernel
theorem dL_law_639 : decode cL_law 639 = .ok (.iconst 0, 1) := by decide +kernel
theorem dL_law_640 : decode cL_law 640 = .ok (.ireturn, 1) := by decide +kernel
theorem dL_law_641 : decode cL_law 641 = .ok (.aload_n 1, 1) := by decide +kernel
theorem dL_law_642 : decode cL_law 642 = .ok (.aload_n 0, 1) := by decide +kernel
theorem dL_law_643 : decode cL_law 643 = .ok (.iload_n 3, 1) := by decide +kernel
theorem dL_law_644 : decode cL_law 644 = .ok (.iconst 1, 1) := by decide +kernel
theorem dL_law_645 : decode cL_law 645 = .ok (.iadd, 1) := by decide +kernel
theorem dL_law_646 : decode cL_law 646 = .ok (.iaload, 1) := by decide +kernel
theorem dL_law_647 : decode cL_law 647 = .ok (.aload_n 0, 1) := by decide +kernel
theorem dL_law_648 : decode cL_law 648 = .ok (.iload_n 3, 1) := by decide +kernel
theorem dL_law_649 : decode cL_law 649 = .ok (.iconst 2, 1) := by decide +kernel
theorem dL_law_650 : decode cL_law 650 = .ok (.iadd, 1) := by decide +kernel
theorem dL_law_651 : decode cL_law 651 = .ok (.iaload, 1) := by decide +kernel
theorem dL_law_652 : decode cL_law 652 = .ok (.invokevirtual 84, 3) := by decide +kernel
theorem dL_law_655 : decode cL_law 655 = .ok (.aload_n 2, 1) := by decide +kernel
theorem dL_law_656 : decode cL_law 656 = .ok (.aload_n 0, 1) := by decide +kernel
theorem dL_law_657 : decode cL_law 657 = .ok (.iload_n 3, 1) := by decide +kernel
theorem dL_law_658 : decode cL_law 658 = .ok (.iconst 1, 1) := by decide +kernel
theorem dL_law_659 : decode cL_law 659 = .ok (.iadd, 1) := by decide +kernel
theorem dL_law_660 : decode cL_law 660 = .ok (.iaload, 1) := by decide +kernel
theorem dL_law_661 : decode cL_law 661 = .ok (.aload_n 0, 1) := by decide +kernel
theorem dL_law_662 : decode cL_law 662 = .ok (.iload_n 3, 1) := by decide +kernel
theorem dL_law_663 : decode cL_law 663 = .ok (.iconst 2, 1) := by decide +kernel
theorem dL_law_664 : decode cL_law 664 = .ok (.iadd, 1) := by decide +kernel
theorem dL_law_665 : decode cL_law 665 = .ok (.iaload, 1) := by decide +kernel
theorem dL_law_666 : decode cL_law 666 = .ok (.invokevirtual 87, 3) := by decide +kernel
theorem dL_law_669 : decode cL_law 669 = .ok (.if_icmp .eq 695, 3) := by decide +kernel
theorem dL_law_672 : decode cL_law 672 = .ok (.iconst 0, 1) := by decide +kernel
theorem dL_law_673 : decode cL_law 673 = .ok (.ireturn, 1) := by decide +kernel
theorem dL_law_674 : decode cL_law 674 = .ok (.aload_n 1, 1) := by decide +kernel
theorem dL_law_675 : decode cL_law 675 = .ok (.aload_n 0, 1) := by decide +kernel
theorem dL_law_676 : decode cL_law 676 = .ok (.iload_n 3, 1) := by decide +kernel
theorem dL_law_677 : decode cL_law 677 = .ok (.iconst 1, 1) := by decide +kernel
theorem dL_law_678 : decode cL_law 678 = .ok (.iadd, 1) := by decide +kernel
theorem dL_law_679 : decode cL_law 679 = .ok (.iaload, 1) := by decide +kernel
theorem dL_law_680 : decode cL_law 680 = .ok (.invokevirtual 88, 3) := by decide +kernel
theorem dL_law_683 : decode cL_law 683 = .ok (.aload_n 2, 1) := by decide +kernel
theorem dL_law_684 : decode cL_law 684 = .ok (.aload_n 0, 1) := by decide +kernel
theorem dL_law_685 : decode cL_law 685 = .ok (.iload_n 3, 1) := by decide +kernel
theorem dL_law_686 : decode cL_law 686 = .ok (.iconst 1, 1) := by decide +kernel
theorem dL_law_687 : decode cL_law 687 = .ok (.iadd, 1) := by decide +kernel
theorem dL_law_688 : decode cL_law 688 = .ok (.iaload, 1) := by decide +kernel
theorem dL_law_689 : decode cL_law 689 = .ok (.invokevirtual 91, 3) := by decide +kernel
theorem dL_law_692 : decode cL_law 692 = .ok (.if_icmp .eq 672, 3) := by decide +kernel
theorem dL_law_695 : decode cL_law 695 = .ok (.iconst 0, 1) := by decide +kernel
theorem dL_law_696 : decode cL_law 696 = .ok (.ireturn, 1) := by decide +kernel
theorem dL_law_697 : decode cL_law 697 = .ok (.aload_n 1, 1) := by decide +kernel
theorem dL_law_698 : decode cL_law 698 = .ok (.aload_n 0, 1) := by decide +kernel
theorem dL_law_699 : decode cL_law 699 = .ok (.iload_n 3, 1) := by decide +kernel
theorem dL_law_700 : decode cL_law 700 = .ok (.iconst 1, 1) := by decide +kernel
theorem dL_law_701 : decode cL_law 701 = .ok (.iadd, 1) := by decide +kernel
theorem dL_law_702 : decode cL_law 702 = .ok (.iaload, 1) := by decide +kernel
theorem dL_law_703 : decode cL_law 703 = .ok (.aload_n 0, 1) := by decide +kernel
theorem dL_law_704 : decode cL_law 704 = .ok (.iload_n 3, 1) := by decide +kernel
theorem dL_law_705 : decode cL_law 705 = .ok (.iconst 2, 1) := by decide +kernel
theorem dL_law_706 : decode cL_law 706 = .ok (.iadd, 1) := by decide +kernel
theorem dL_law_707 : decode cL_law 707 = .ok (.iaload, 1) := by decide +kernel
theorem dL_law_708 : decode cL_law 708 = .ok (.aload_n 0, 1) := by decide +kernel
theorem dL_law_709 : decode cL_law 709 = .ok (.iload_n 3, 1) := by decide +kernel
theorem dL_law_710 : decode cL_law 710 = .ok (.iconst 3, 1) := by decide +kernel
theorem dL_law_711 : decode cL_law 711 = .ok (.iadd, 1) := by decide +kernel
theorem dL_law_712 : decode cL_law 712 = .ok (.iaload, 1) := by decide +kernel
theorem dL_law_713 : decode cL_law 713 = .ok (.invokevirtual 92, 3) := by decide +kernel
theorem dL_law_716 : decode cL_law 716 = .ok (.aload_n 2, 1) := by decide +kernel
theorem dL_law_717 : decode cL_law 717 = .ok (.aload_n 0, 1) := by decide +kernel
theorem dL_law_718 : decode cL_law 718 = .ok (.iload_n 3, 1) := by decide +kernel
theorem dL_law_719 : decode cL_law 719 = .ok (.iconst 1, 1) := by decide +kernel
theorem dL_law_720 : decode cL_law 720 = .ok (.iadd, 1) := by decide +kernel
theorem dL_law_721 : decode cL_law 721 = .ok (.iaload, 1) := by decide +kernel
theorem dL_law_722 : decode cL_law 722 = .ok (.aload_n 0, 1) := by decide +kernel
theorem dL_law_723 : decode cL_law 723 = .ok (.iload_n 3, 1) := by decide +kernel
theorem dL_law_724 : decode cL_law 724 = .ok (.iconst 2, 1) := by decide +kernel
theorem dL_law_725 : decode cL_law 725 = .ok (.iadd, 1) := by decide +kernel
theorem dL_law_726 : decode cL_law 726 = .ok (.iaload, 1) := by decide +kernel
theorem dL_law_727 : decode cL_law 727 = .ok (.aload_n 0, 1) := by decide +kernel
theorem dL_law_728 : decode cL_law 728 = .ok (.iload_n 3, 1) := by decide +kernel
theorem dL_law_729 : decode cL_law 729 = .ok (.iconst 3, 1) := by decide +kernel
theorem dL_law_730 : decode cL_law 730 = .ok (.iadd, 1) := by decide +kernel
theorem dL_law_731 : decode cL_law 731 = .ok (.iaload, 1) := by decide +kernel
theorem dL_law_732 : decode cL_law 732 = .ok (.invokevirtual 96, 3) := by decide +kernel
theorem dL_law_735 : decode cL_law 735 = .ok (.if_icmp .eq 629, 3) := by decide +kernel
theorem dL_law_738 : decode cL_law 738 = .ok (.iconst 0, 1) := by decide +kernel
theorem dL_law_739 : decode cL_law 739 = .ok (.ireturn, 1) := by decide +kernel
theorem dL_law_740 : decode cL_law 740 = .ok (.aload_n 1, 1) := by decide +kernel
theorem dL_law_741 : decode cL_law 741 = .ok (.aload_n 0, 1) := by decide +kernel
theorem dL_law_742 : decode cL_law 742 = .ok (.iload_n 3, 1) := by decide +kernel
theorem dL_law_743 : decode cL_law 743 = .ok (.iconst 1, 1) := by decide +kernel
theorem dL_law_744 : decode cL_law 744 = .ok (.iadd, 1) := by decide +kernel
theorem dL_law_745 : decode cL_law 745 = .ok (.iaload, 1) := by decide +kernel
theorem dL_law_746 : decode cL_law 746 = .ok (.aload_n 0, 1) := by decide +kernel
theorem dL_law_747 : decode cL_law 747 = .ok (.iload_n 3, 1) := by decide +kernel
theorem dL_law_748 : decode cL_law 748 = .ok (.iconst 2, 1) := by decide +kernel
theorem dL_law_749 : decode cL_law 749 = .ok (.iadd, 1) := by decide +kernel
theorem dL_law_750 : decode cL_law 750 = .ok (.iaload, 1) := by decide +kernel
theorem dL_law_751 : decode cL_law 751 = .ok (.invokevirtual 97, 3) := by decide +kernel
theorem dL_law_754 : decode cL_law 754 = .ok (.aload_n 2, 1) := by decide +kernel
theorem dL_law_755 : decode cL_law 755 = .ok (.aload_n 0, 1) := by decide +kernel
theorem dL_law_756 : decode cL_law 756 = .ok (.iload_n 3, 1) := by decide +kernel
theorem dL_law_757 : decode cL_law 757 = .ok (.iconst 1, 1) := by decide +kernel
theorem dL_law_758 : decode cL_law 758 = .ok (.iadd, 1) := by decide +kernel
theorem dL_law_759 : decode cL_law 759 = .ok (.iaload, 1) := by decide +kernel
theorem dL_law_760 : decode cL_law 760 = .ok (.aload_n 0, 1) := by decide +kernel
theorem dL_law_761 : decode cL_law 761 = .ok (.iload_n 3, 1) := by decide +kernel
theorem dL_law_762 : decode cL_law 762 = .ok (.iconst 2, 1) := by decide +kernel
theorem dL_law_763 : decode cL_law 763 = .ok (.iadd, 1) := by decide +kernel
theorem dL_law_764 : decode cL_law 764 = .ok (.iaload, 1) := by decide +kernel
theorem dL_law_765 : decode cL_law 765 = .ok (.invokevirtual 100, 3) := by decide +kernel
theorem dL_law_768 : decode cL_law 768 = .ok (.if_icmp .eq 596, 3) := by decide +kernel
theorem dL_law_771 : decode cL_law 771 = .ok (.iconst 0, 1) := by decide +kernel
theorem dL_law_772 : decode cL_law 772 = .ok (.ireturn, 1) := by decide +kernel
theorem dL_law_773 : decode cL_law 773 = .ok (.aload_n 1, 1) := by decide +kernel
theorem dL_law_774 : decode cL_law 774 = .ok (.aload_n 0, 1) := by decide +kernel
theorem dL_law_775 : decode cL_law 775 = .ok (.iload_n 3, 1) := by decide +kernel
theorem dL_law_776 : decode cL_law 776 = .ok (.iconst 1, 1) := by decide +kernel
theorem dL_law_777 : decode cL_law 777 = .ok (.iadd, 1) := by decide +kernel
theorem dL_law_778 : decode cL_law 778 = .ok (.iaload, 1) := by decide +kernel
theorem dL_law_779 : decode cL_law 779 = .ok (.aload_n 0, 1) := by decide +kernel
theorem dL_law_780 : decode cL_law 780 = .ok (.iload_n 3, 1) := by decide +kernel
theorem dL_law_781 : decode cL_law 781 = .ok (.iconst 2, 1) := by decide +kernel
theorem dL_law_782 : decode cL_law 782 = .ok (.iadd, 1) := by decide +kernel
theorem dL_law_783 : decode cL_law 783 = .ok (.iaload, 1) := by decide +kernel
theorem dL_law_784 : decode cL_law 784 = .ok (.invokevirtual 101, 3) := by decide +kernel
theorem dL_law_787 : decode cL_law 787 = .ok (.aload_n 2, 1) := by decide +kernel
theorem dL_law_788 : decode cL_law 788 = .ok (.aload_n 0, 1) := by decide +kernel
theorem dL_law_789 : decode cL_law 789 = .ok (.iload_n 3, 1) := by decide +kernel
theorem dL_law_790 : decode cL_law 790 = .ok (.iconst 1, 1) := by decide +kernel
theorem dL_law_791 : decode cL_law 791 = .ok (.iadd, 1) := by decide +kernel
theorem dL_law_792 : decode cL_law 792 = .ok (.iaload, 1) := by decide +kernel
theorem dL_law_793 : decode cL_law 793 = .ok (.aload_n 0, 1) := by decide +kernel
theorem dL_law_794 : decode cL_law 794 = .ok (.iload_n 3, 1) := by decide +kernel
theorem dL_law_795 : decode cL_law 795 = .ok (.iconst 2, 1) := by decide +kernel
theorem dL_law_796 : decode cL_law 796 = .ok (.iadd, 1) := by decide +kernel
theorem dL_law_797 : decode cL_law 797 = .ok (.iaload, 1) := by decide +kernel
theorem dL_law_798 : decode cL_law 798 = .ok (.invokevirtual 104, 3) := by decide +kernel
theorem dL_law_801 : decode cL_law 801 = .ok (.if_icmp .eq 563, 3) := by decide +kernel
theorem dL_law_804 : decode cL_law 804 = .ok (.iconst 0, 1) := by decide +kernel
theorem dL_law_805 : decode cL_law 805 = .ok (.ireturn, 1) := by decide +kernel
theorem dL_law_806 : decode cL_law 806 = .ok (.aload_n 1, 1) := by decide +kernel
theorem dL_law_807 : decode cL_law 807 = .ok (.aload_n 0, 1) := by decide +kernel
theorem dL_law_808 : decode cL_law 808 = .ok (.iload_n 3, 1) := by decide +kernel
theorem dL_law_809 : decode cL_law 809 = .ok (.iconst 1, 1) := by decide +kernel
theorem dL_law_810 : decode cL_law 810 = .ok (.iadd, 1) := by decide +kernel
theorem dL_law_811 : decode cL_law 811 = .ok (.iaload, 1) := by decide +kernel
theorem dL_law_812 : decode cL_law 812 = .ok (.invokevirtual 105, 3) := by decide +kernel
theorem dL_law_815 : decode cL_law 815 = .ok (.aload_n 2, 1) := by decide +kernel
theorem dL_law_816 : decode cL_law 816 = .ok (.aload_n 0, 1) := by decide +kernel
theorem dL_law_817 : decode cL_law 817 = .ok (.iload_n 3, 1) := by decide +kernel
theorem dL_law_818 : decode cL_law 818 = .ok (.iconst 1, 1) := by decide +kernel
theorem dL_law_819 : decode cL_law 819 = .ok (.iadd, 1) := by decide +kernel
theorem dL_law_820 : decode cL_law 820 = .ok (.iaload, 1) := by decide +kernel
theorem dL_law_821 : decode cL_law 821 = .ok (.invokevirtual 108, 3) := by decide +kernel
theorem dL_law_824 : decode cL_law 824 = .ok (.if_icmp .eq 540, 3) := by decide +kernel
theorem dL_law_827 : decode cL_law 827 = .ok (.iconst 0, 1) := by decide +kernel
theorem dL_law_828 : decode cL_law 828 = .ok (.ireturn, 1) := by decide +kernel
theorem dL_law_829 : decode cL_law 829 = .ok (.aload_n 1, 1) := by decide +kernel
theorem dL_law_830 : decode cL_law 830 = .ok (.aload_n 0, 1) := by decide +kernel
theorem dL_law_831 : decode cL_law 831 = .ok (.iload_n 3, 1) := by decide +kernel
theorem dL_law_832 : decode cL_law 832 = .ok (.iconst 1, 1) := by decide +kernel
theorem dL_law_833 : decode cL_law 833 = .ok (.iadd, 1) := by decide +kernel
theorem dL_law_834 : decode cL_law 834 = .ok (.iaload, 1) := by decide +kernel
theorem dL_law_835 : decode cL_law 835 = .ok (.aload_n 0, 1) := by decide +kernel
theorem dL_law_836 : decode cL_law 836 = .ok (.iload_n 3, 1) := by decide +kernel
theorem dL_law_837 : decode cL_law 837 = .ok (.iconst 2, 1) := by decide +kernel
theorem dL_law_838 : decode cL_law 838 = .ok (.iadd, 1) := by decide +kernel
theorem dL_law_839 : decode cL_law 839 = .ok (.iaload, 1) := by decide +kernel
theorem dL_law_840 : decode cL_law 840 = .ok (.aload_n 0, 1) := by decide +kernel
theorem dL_law_841 : decode cL_law 841 = .ok (.iload_n 3, 1) := by decide +kernel
theorem dL_law_842 : decode cL_law 842 = .ok (.iconst 3, 1) := by decide +kernel
theorem dL_law_843 : decode cL_law 843 = .ok (.iadd, 1) := by decide +kernel
theorem dL_law_844 : decode cL_law 844 = .ok (.iaload, 1) := by decide +kernel
theorem dL_law_845 : decode cL_law 845 = .ok (.aload_n 0, 1) := by decide +kernel
theorem dL_law_846 : decode cL_law 846 = .ok (.iload_n 3, 1) := by decide +kernel
theorem dL_law_847 : decode cL_law 847 = .ok (.iconst 4, 1) := by decide +kernel
theorem dL_law_848 : decode cL_law 848 = .ok (.iadd, 1) := by decide +kernel
theorem dL_law_849 : decode cL_law 849 = .ok (.iaload, 1) := by decide +kernel
theorem dL_law_850 : decode cL_law 850 = .ok (.invokevirtual 109, 3) := by decide +kernel
theorem dL_law_853 : decode cL_law 853 = .ok (.aload_n 2, 1) := by decide +kernel
theorem dL_law_854 : decode cL_law 854 = .ok (.aload_n 0, 1) := by decide +kernel
theorem dL_law_855 : decode cL_law 855 = .ok (.iload_n 3, 1) := by decide +kernel
theorem dL_law_856 : decode cL_law 856 = .ok (.iconst 1, 1) := by decide +kernel
theorem dL_law_857 : decode cL_law 857 = .ok (.iadd, 1) := by decide +kernel
theorem dL_law_858 : decode cL_law 858 = .ok (.iaload, 1) := by decide +kernel
theorem dL_law_859 : decode cL_law 859 = .ok (.aload_n 0, 1) := by decide +kernel
theorem dL_law_860 : decode cL_law 860 = .ok (.iload_n 3, 1) := by decide +kernel
theorem dL_law_861 : decode cL_law 861 = .ok (.iconst 2, 1) := by decide +kernel
theorem dL_law_862 : decode cL_law 862 = .ok (.iadd, 1) := by decide +kernel
theorem dL_law_863 : decode cL_law 863 = .ok (.iaload, 1) := by decide +kernel
theorem dL_law_864 : decode cL_law 864 = .ok (.aload_n 0, 1) := by decide +kernel
theorem dL_law_865 : decode cL_law 865 = .ok (.iload_n 3, 1) := by decide +kernel
theorem dL_law_866 : decode cL_law 866 = .ok (.iconst 3, 1) := by decide +kernel
theorem dL_law_867 : decode cL_law 867 = .ok (.iadd, 1) := by decide +kernel
theorem dL_law_868 : decode cL_law 868 = .ok (.iaload, 1) := by decide +kernel
theorem dL_law_869 : decode cL_law 869 = .ok (.aload_n 0, 1) := by decide +kernel
theorem dL_law_870 : decode cL_law 870 = .ok (.iload_n 3, 1) := by decide +kernel
theorem dL_law_871 : decode cL_law 871 = .ok (.iconst 4, 1) := by decide +kernel
theorem dL_law_872 : decode cL_law 872 = .ok (.iadd, 1) := by decide +kernel
theorem dL_law_873 : decode cL_law 873 = .ok (.iaload, 1) := by decide +kernel
theorem dL_law_874 : decode cL_law 874 = .ok (.invokevirtual 113, 3) := by decide +kernel
theorem dL_law_877 : decode cL_law 877 = .ok (.if_icmp .eq 487, 3) := by decide +kernel
theorem dL_law_880 : decode cL_law 880 = .ok (.iconst 0, 1) := by decide +kernel
theorem dL_law_881 : decode cL_law 881 = .ok (.ireturn, 1) := by decide +kernel
theorem dL_law_882 : decode cL_law 882 = .ok (.aload_n 1, 1) := by decide +kernel
theorem dL_law_883 : decode cL_law 883 = .ok (.aload_n 0, 1) := by decide +kernel
theorem dL_law_884 : decode cL_law 884 = .ok (.iload_n 3, 1) := by decide +kernel
theorem dL_law_885 : decode cL_law 885 = .ok (.iconst 1, 1) := by decide +kernel
theorem dL_law_886 : decode cL_law 886 = .ok (.iadd, 1) := by decide +kernel
theorem dL_law_887 : decode cL_law 887 = .ok (.iaload, 1) := by decide +kernel
theorem dL_law_888 : decode cL_law 888 = .ok (.aload_n 0, 1) := by decide +kernel
theorem dL_law_889 : decode cL_law 889 = .ok (.iload_n 3, 1) := by decide +kernel
theorem dL_law_890 : decode cL_law 890 = .ok (.iconst 2, 1) := by decide +kernel
theorem dL_law_891 : decode cL_law 891 = .ok (.iadd, 1) := by decide +kernel
theorem dL_law_892 : decode cL_law 892 = .ok (.iaload, 1) := by decide +kernel
theorem dL_law_893 : decode cL_law 893 = .ok (.aload_n 0, 1) := by decide +kernel
theorem dL_law_894 : decode cL_law 894 = .ok (.iload_n 3, 1) := by decide +kernel
theorem dL_law_895 : decode cL_law 895 = .ok (.iconst 3, 1) := by decide +kernel
theorem dL_law_896 : decode cL_law 896 = .ok (.iadd, 1) := by decide +kernel
theorem dL_law_897 : decode cL_law 897 = .ok (.iaload, 1) := by decide +kernel
theorem dL_law_898 : decode cL_law 898 = .ok (.invokevirtual 114, 3) := by decide +kernel
theorem dL_law_901 : decode cL_law 901 = .ok (.aload_n 2, 1) := by decide +kernel
theorem dL_law_902 : decode cL_law 902 = .ok (.aload_n 0, 1) := by decide +kernel
theorem dL_law_903 : decode cL_law 903 = .ok (.iload_n 3, 1) := by decide +kernel
theorem dL_law_904 : decode cL_law 904 = .ok (.iconst 1, 1) := by decide +kernel
theorem dL_law_905 : decode cL_law 905 = .ok (.iadd, 1) := by decide +kernel
theorem dL_law_906 : decode cL_law 906 = .ok (.iaload, 1) := by decide +kernel
theorem dL_law_907 : decode cL_law 907 = .ok (.aload_n 0, 1) := by decide +kernel
theorem dL_law_908 : decode cL_law 908 = .ok (.iload_n 3, 1) := by decide +kernel
theorem dL_law_909 : decode cL_law 909 = .ok (.iconst 2, 1) := by decide +kernel
theorem dL_law_910 : decode cL_law 910 = .ok (.iadd, 1) := by decide +kernel
theorem dL_law_911 : decode cL_law 911 = .ok (.iaload, 1) := by decide +kernel
theorem dL_law_912 : decode cL_law 912 = .ok (.aload_n 0, 1) := by decide +kernel
theorem dL_law_913 : decode cL_law 913 = .ok (.iload_n 3, 1) := by decide +kernel
theorem dL_law_914 : decode cL_law 914 = .ok (.iconst 3, 1) := by decide +kernel
theorem dL_law_915 : decode cL_law 915 = .ok (.iadd, 1) := by decide +kernel
theorem dL_law_916 : decode cL_law 916 = .ok (.iaload, 1) := by decide +kernel
theorem dL_law_917 : decode cL_law 917 = .ok (.invokevirtual 117, 3) := by decide +kernel
theorem dL_law_920 : decode cL_law 920 = .ok (.if_icmp .eq 444, 3) := by decide +kernel
theorem dL_law_923 : decode cL_law 923 = .ok (.iconst 0, 1) := by decide +kernel
theorem dL_law_924 : decode cL_law 924 = .ok (.ireturn, 1) := by decide +kernel
theorem dL_law_925 : decode cL_law 925 = .ok (.aload_n 1, 1) := by decide +kernel
theorem dL_law_926 : decode cL_law 926 = .ok (.aload_n 0, 1) := by decide +kernel
theorem dL_law_927 : decode cL_law 927 = .ok (.iload_n 3, 1) := by decide +kernel
theorem dL_law_928 : decode cL_law 928 = .ok (.iconst 1, 1) := by decide +kernel
theorem dL_law_929 : decode cL_law 929 = .ok (.iadd, 1) := by decide +kernel
theorem dL_law_930 : decode cL_law 930 = .ok (.iaload, 1) := by decide +kernel
theorem dL_law_931 : decode cL_law 931 = .ok (.aload_n 0, 1) := by decide +kernel
theorem dL_law_932 : decode cL_law 932 = .ok (.iload_n 3, 1) := by decide +kernel
theorem dL_law_933 : decode cL_law 933 = .ok (.iconst 2, 1) := by decide +kernel
theorem dL_law_934 : decode cL_law 934 = .ok (.iadd, 1) := by decide +kernel
theorem dL_law_935 : decode cL_law 935 = .ok (.iaload, 1) := by decide +kernel
theorem dL_law_936 : decode cL_law 936 = .ok (.aload_n 0, 1) := by decide +kernel
theorem dL_law_937 : decode cL_law 937 = .ok (.iload_n 3, 1) := by decide +kernel
theorem dL_law_938 : decode cL_law 938 = .ok (.iconst 3, 1) := by decide +kernel
theorem dL_law_939 : decode cL_law 939 = .ok (.iadd, 1) := by decide +kernel
theorem dL_law_940 : decode cL_law 940 = .ok (.iaload, 1) := by decide +kernel
theorem dL_law_941 : decode cL_law 941 = .ok (.invokevirtual 118, 3) := by decide +kernel
theorem dL_law_944 : decode cL_law 944 = .ok (.aload_n 2, 1) := by decide +kernel
theorem dL_law_945 : decode cL_law 945 = .ok (.aload_n 0, 1) := by decide +kernel
theorem dL_law_946 : decode cL_law 946 = .ok (.iload_n 3, 1) := by decide +kernel
theorem dL_law_947 : decode cL_law 947 = .ok (.iconst 1, 1) := by decide +kernel
theorem dL_law_948 : decode cL_law 948 = .ok (.iadd, 1) := by decide +kernel
theorem dL_law_949 : decode cL_law 949 = .ok (.iaload, 1) := by decide +kernel
theorem dL_law_950 : decode cL_law 950 = .ok (.aload_n 0, 1) := by decide +kernel
theorem dL_law_951 : decode cL_law 951 = .ok (.iload_n 3, 1) := by decide +kernel
theorem dL_law_952 : decode cL_law 952 = .ok (.iconst 2, 1) := by decide +kernel
theorem dL_law_953 : decode cL_law 953 = .ok (.iadd, 1) := by decide +kernel
theorem dL_law_954 : decode cL_law 954 = .ok (.iaload, 1) := by decide +kernel
theorem dL_law_955 : decode cL_law 955 = .ok (.aload_n 0, 1) := by decide +kernel
theorem dL_law_956 : decode cL_law 956 = .ok (.iload_n 3, 1) := by decide +kernel
theorem dL_law_957 : decode cL_law 957 = .ok (.iconst 3, 1) := by decide +kernel
theorem dL_law_958 : decode cL_law 958 = .ok (.iadd, 1) := by decide +kernel
theorem dL_law_959 : decode cL_law 959 = .ok (.iaload, 1) := by decide +kernel
theorem dL_law_960 : decode cL_law 960 = .ok (.invokevirtual 121, 3) := by decide +kernel
theorem dL_law_963 : decode cL_law 963 = .ok (.if_icmp .eq 401, 3) := by decide +kernel
theorem dL_law_966 : decode cL_law 966 = .ok (.iconst 0, 1) := by decide +kernel
theorem dL_law_967 : decode cL_law 967 = .ok (.ireturn, 1) := by decide +kernel
theorem dL_law_968 : decode cL_law 968 = .ok (.aload_n 1, 1) := by decide +kernel
theorem dL_law_969 : decode cL_law 969 = .ok (.aload_n 0, 1) := by decide +kernel
theorem dL_law_970 : decode cL_law 970 = .ok (.iload_n 3, 1) := by decide +kernel
theorem dL_law_971 : decode cL_law 971 = .ok (.iconst 1, 1) := by decide +kernel
theorem dL_law_972 : decode cL_law 972 = .ok (.iadd, 1) := by decide +kernel
theorem dL_law_973 : decode cL_law 973 = .ok (.iaload, 1) := by decide +kernel
theorem dL_law_974 : decode cL_law 974 = .ok (.invokevirtual 122, 3) := by decide +kernel
theorem dL_law_977 : decode cL_law 977 = .ok (.aload_n 2, 1) := by decide +kernel
theorem dL_law_978 : decode cL_law 978 = .ok (.aload_n 0, 1) := by decide +kernel
theorem dL_law_979 : decode cL_law 979 = .ok (.iload_n 3, 1) := by decide +kernel
theorem dL_law_980 : decode cL_law 980 = .ok (.iconst 1, 1) := by decide +kernel
theorem dL_law_981 : decode cL_law 981 = .ok (.iadd, 1) := by decide +kernel
theorem dL_law_982 : decode cL_law 982 = .ok (.iaload, 1) := by decide +kernel
theorem dL_law_983 : decode cL_law 983 = .ok (.invokevirtual 125, 3) := by decide +kernel
theorem dL_law_986 : decode cL_law 986 = .ok (.if_icmp .eq 378, 3) := by decide +kernel
theorem dL_law_989 : decode cL_law 989 = .ok (.iconst 0, 1) := by decide +kernel
theorem dL_law_990 : decode cL_law 990 = .ok (.ireturn, 1) := by decide +kernel
theorem dL_law_991 : decode cL_law 991 = .ok (.aload_n 1, 1) := by decide +kernel
theorem dL_law_992 : decode cL_law 992 = .ok (.aload_n 0, 1) := by decide +kernel
theorem dL_law_993 : decode cL_law 993 = .ok (.iload_n 3, 1) := by decide +kernel
theorem dL_law_994 : decode cL_law 994 = .ok (.iconst 1, 1) := by decide +kernel
theorem dL_law_995 : decode cL_law 995 = .ok (.iadd, 1) := by decide +kernel
theorem dL_law_996 : decode cL_law 996 = .ok (.iaload, 1) := by decide +kernel
theorem dL_law_997 : decode cL_law 997 = .ok (.aload_n 0, 1) := by decide +kernel
theorem dL_law_998 : decode cL_law 998 = .ok (.iload_n 3, 1) := by decide +kernel
theorem dL_law_999 : decode cL_law 999 = .ok (.iconst 2, 1) := by decide +kernel
theorem dL_law_1000 : decode cL_law 1000 = .ok (.iadd, 1) := by decide +kernel
theorem dL_law_1001 : decode cL_law 1001 = .ok (.iaload, 1) := by decide +kernel
theorem dL_law_1002 : decode cL_law 1002 = .ok (.aload_n 0, 1) := by decide +kernel
theorem dL_law_1003 : decode cL_law 1003 = .ok (.iload_n 3, 1) := by decide +kernel
theorem dL_law_1004 : decode cL_law 1004 = .ok (.iconst 3, 1) := by decide +kernel
theorem dL_law_1005 : decode cL_law 1005 = .ok (.iadd, 1) := by decide +kernel
theorem dL_law_1006 : decode cL_law 1006 = .ok (.iaload, 1) := by decide +kernel
theorem dL_law_1007 : decode cL_law 1007 = .ok (.aload_n 0, 1) := by decide +kernel
theorem dL_law_1008 : decode cL_law 1008 = .ok (.iload_n 3, 1) := by decide +kernel
theorem dL_law_1009 : decode cL_law 1009 = .ok (.iconst 4, 1) := by decide +kernel
theorem dL_law_1010 : decode cL_law 1010 = .ok (.iadd, 1) := by decide +kernel
theorem dL_law_1011 : decode cL_law 1011 = .ok (.iaload, 1) := by decide +kernel
theorem dL_law_1012 : decode cL_law 1012 = .ok (.i2l, 1) := by decide +kernel
theorem dL_law_1013 : decode cL_law 1013 = .ok (.bipush 32, 2) := by decide +kernel
theorem dL_law_1015 : decode cL_law 1015 = .ok (.lshl, 1) := by decide +kernel
theorem dL_law_1016 : decode cL_law 1016 = .ok (.aload_n 0, 1) := by decide +kernel
theorem dL_law_1017 : decode cL_law 1017 = .ok (.iload_n 3, 1) := by decide +kernel
theorem dL_law_1018 : decode cL_law 1018 = .ok (.iconst 5, 1) := by decide +kernel
theorem dL_law_1019 : decode cL_law 1019 = .ok (.iadd, 1) := by decide +kernel
theorem dL_law_1020 : decode cL_law 1020 = .ok (.iaload, 1) := by decide +kernel
theorem dL_law_1021 : decode cL_law 1021 = .ok (.i2l, 1) := by decide +kernel
theorem dL_law_1022 : decode cL_law 1022 = .ok (.ldc2_w 126, 3) := by decide +kernel
theorem dL_law_1025 : decode cL_law 1025 = .ok (.land, 1) := by decide +kernel
theorem dL_law_1026 : decode cL_law 1026 = .ok (.lor, 1) := by decide +kernel
theorem dL_law_1027 : decode cL_law 1027 = .ok (.invokevirtual 128, 3) := by decide +kernel
theorem dL_law_1030 : decode cL_law 1030 = .ok (.aload_n 2, 1) := by decide +kernel
theorem dL_law_1031 : decode cL_law 1031 = .ok (.aload_n 0, 1) := by decide +kernel
theorem dL_law_1032 : decode cL_law 1032 = .ok (.iload_n 3, 1) := by decide +kernel
theorem dL_law_1033 : decode cL_law 1033 = .ok (.iconst 1, 1) := by decide +kernel
theorem dL_law_1034 : decode cL_law 1034 = .ok (.iadd, 1) := by decide +kernel
theorem dL_law_1035 : decode cL_law 1035 = .ok (.iaload, 1) := by decide +kernel
theorem dL_law_1036 : decode cL_law 1036 = .ok (.aload_n 0, 1) := by decide +kernel
theorem dL_law_1037 : decode cL_law 1037 = .ok (.iload_n 3, 1) := by decide +kernel
theorem dL_law_1038 : decode cL_law 1038 = .ok (.iconst 2, 1) := by decide +kernel
theorem dL_law_1039 : decode cL_law 1039 = .ok (.iadd, 1) := by decide +kernel
theorem dL_law_1040 : decode cL_law 1040 = .ok (.iaload, 1) := by decide +kernel
theorem dL_law_1041 : decode cL_law 1041 = .ok (.aload_n 0, 1) := by decide +kernel
theorem dL_law_1042 : decode cL_law 1042 = .ok (.iload_n 3, 1) := by decide +kernel
theorem dL_law_1043 : decode cL_law 1043 = .ok (.iconst 3, 1) := by decide +kernel
theorem dL_law_1044 : decode cL_law 1044 = .ok (.iadd, 1) := by decide +kernel
theorem dL_law_1045 : decode cL_law 1045 = .ok (.iaload, 1) := by decide +kernel
theorem dL_law_1046 : decode cL_law 1046 = .ok (.aload_n 0, 1) := by decide +kernel
theorem dL_law_1047 : decode cL_law 1047 = .ok (.iload_n 3, 1) := by decide +kernel
theorem dL_law_1048 : decode cL_law 1048 = .ok (.iconst 4, 1) := by decide +kernel
theorem dL_law_1049 : decode cL_law 1049 = .ok (.iadd, 1) := by decide +kernel
theorem dL_law_1050 : decode cL_law 1050 = .ok (.iaload, 1) := by decide +kernel
theorem dL_law_1051 : decode cL_law 1051 = .ok (.i2l, 1) := by decide +kernel
theorem dL_law_1052 : decode cL_law 1052 = .ok (.bipush 32, 2) := by decide +kernel
theorem dL_law_1054 : decode cL_law 1054 = .ok (.lshl, 1) := by decide +kernel
theorem dL_law_1055 : decode cL_law 1055 = .ok (.aload_n 0, 1) := by decide +kernel
theorem dL_law_1056 : decode cL_law 1056 = .ok (.iload_n 3, 1) := by decide +kernel
theorem dL_law_1057 : decode cL_law 1057 = .ok (.iconst 5, 1) := by decide +kernel
theorem dL_law_1058 : decode cL_law 1058 = .ok (.iadd, 1) := by decide +kernel
theorem dL_law_1059 : decode cL_law 1059 = .ok (.iaload, 1) := by decide +kernel
theorem dL_law_1060 : decode cL_law 1060 = .ok (.i2l, 1) := by decide +kernel
theorem dL_law_1061 : decode cL_law 1061 = .ok (.ldc2_w 126, 3) := by decide +kernel
theorem dL_law_1064 : decode cL_law 1064 = .ok (.land, 1) := by decide +kernel
theorem dL_law_1065 : decode cL_law 1065 = .ok (.lor, 1) := by decide +kernel
theorem dL_law_1066 : decode cL_law 1066 = .ok (.invokevirtual 132, 3) := by decide +kernel
theorem dL_law_1069 : decode cL_law 1069 = .ok (.lcmp, 1) := by decide +kernel
theorem dL_law_1070 : decode cL_law 1070 = .ok (.ifCond .eq 294, 3) := by decide +kernel
theorem dL_law_1073 : decode cL_law 1073 = .ok (.iconst 0, 1) := by decide +kernel
theorem dL_law_1074 : decode cL_law 1074 = .ok (.ireturn, 1) := by decide +kernel
theorem dL_law_1075 : decode cL_law 1075 = .ok (.aload_n 1, 1) := by decide +kernel
theorem dL_law_1076 : decode cL_law 1076 = .ok (.aload_n 0, 1) := by decide +kernel
theorem dL_law_1077 : decode cL_law 1077 = .ok (.iload_n 3, 1) := by decide +kernel
theorem dL_law_1078 : decode cL_law 1078 = .ok (.iconst 1, 1) := by decide +kernel
theorem dL_law_1079 : decode cL_law 1079 = .ok (.iadd, 1) := by decide +kernel
theorem dL_law_1080 : decode cL_law 1080 = .ok (.iaload, 1) := by decide +kernel
theorem dL_law_1081 : decode cL_law 1081 = .ok (.aload_n 0, 1) := by decide +kernel
theorem dL_law_1082 : decode cL_law 1082 = .ok (.iload_n 3, 1) := by decide +kernel
theorem dL_law_1083 : decode cL_law 1083 = .ok (.iconst 2, 1) := by decide +kernel
theorem dL_law_1084 : decode cL_law 1084 = .ok (.iadd, 1) := by decide +kernel
theorem dL_law_1085 : decode cL_law 1085 = .ok (.iaload, 1) := by decide +kernel
theorem dL_law_1086 : decode cL_law 1086 = .ok (.aload_n 0, 1) := by decide +kernel
theorem dL_law_1087 : decode cL_law 1087 = .ok (.iload_n 3, 1) := by decide +kernel
theorem dL_law_1088 : decode cL_law 1088 = .ok (.iconst 3, 1) := by decide +kernel
theorem dL_law_1089 : decode cL_law 1089 = .ok (.iadd, 1) := by decide +kernel
theorem dL_law_1090 : decode cL_law 1090 = .ok (.iaload, 1) := by decide +kernel
theorem dL_law_1091 : decode cL_law 1091 = .ok (.aload_n 0, 1) := by decide +kernel
theorem dL_law_1092 : decode cL_law 1092 = .ok (.iload_n 3, 1) := by decide +kernel
theorem dL_law_1093 : decode cL_law 1093 = .ok (.iconst 4, 1) := by decide +kernel
theorem dL_law_1094 : decode cL_law 1094 = .ok (.iadd, 1) := by decide +kernel
theorem dL_law_1095 : decode cL_law 1095 = .ok (.iaload, 1) := by decide +kernel
theorem dL_law_1096 : decode cL_law 1096 = .ok (.aload_n 0, 1) := by decide +kernel
theorem dL_law_1097 : decode cL_law 1097 = .ok (.iload_n 3, 1) := by decide +kernel
theorem dL_law_1098 : decode cL_law 1098 = .ok (.iconst 5, 1) := by decide +kernel
theorem dL_law_1099 : decode cL_law 1099 = .ok (.iadd, 1) := by decide +kernel
theorem dL_law_1100 : decode cL_law 1100 = .ok (.iaload, 1) := by decide +kernel
theorem dL_law_1101 : decode cL_law 1101 = .ok (.invokevirtual 133, 3) := by decide +kernel
theorem dL_law_1104 : decode cL_law 1104 = .ok (.aload_n 2, 1) := by decide +kernel
theorem dL_law_1105 : decode cL_law 1105 = .ok (.aload_n 0, 1) := by decide +kernel
theorem dL_law_1106 : decode cL_law 1106 = .ok (.iload_n 3, 1) := by decide +kernel
theorem dL_law_1107 : decode cL_law 1107 = .ok (.iconst 1, 1) := by decide +kernel
theorem dL_law_1108 : decode cL_law 1108 = .ok (.iadd, 1) := by decide +kernel
theorem dL_law_1109 : decode cL_law 1109 = .ok (.iaload, 1) := by decide +kernel
theorem dL_law_1110 : decode cL_law 1110 = .ok (.aload_n 0, 1) := by decide +kernel
theorem dL_law_1111 : decode cL_law 1111 = .ok (.iload_n 3, 1) := by decide +kernel
theorem dL_law_1112 : decode cL_law 1112 = .ok (.iconst 2, 1) := by decide +kernel
theorem dL_law_1113 : decode cL_law 1113 = .ok (.iadd, 1) := by decide +kernel
theorem dL_law_1114 : decode cL_law 1114 = .ok (.iaload, 1) := by decide +kernel
theorem dL_law_1115 : decode cL_law 1115 = .ok (.aload_n 0, 1) := by decide +kernel
theorem dL_law_1116 : decode cL_law 1116 = .ok (.iload_n 3, 1) := by decide +kernel
theorem dL_law_1117 : decode cL_law 1117 = .ok (.iconst 3, 1) := by decide +kernel
theorem dL_law_1118 : decode cL_law 1118 = .ok (.iadd, 1) := by decide +kernel
theorem dL_law_1119 : decode cL_law 1119 = .ok (.iaload, 1) := by decide +kernel
theorem dL_law_1120 : decode cL_law 1120 = .ok (.aload_n 0, 1) := by decide +kernel
theorem dL_law_1121 : decode cL_law 1121 = .ok (.iload_n 3, 1) := by decide +kernel
theorem dL_law_1122 : decode cL_law 1122 = .ok (.iconst 4, 1) := by decide +kernel
theorem dL_law_1123 : decode cL_law 1123 = .ok (.iadd, 1) := by decide +kernel
theorem dL_law_1124 : decode cL_law 1124 = .ok (.iaload, 1) := by decide +kernel
theorem dL_law_1125 : decode cL_law 1125 = .ok (.aload_n 0, 1) := by decide +kernel
theorem dL_law_1126 : decode cL_law 1126 = .ok (.iload_n 3, 1) := by decide +kernel
theorem dL_law_1127 : decode cL_law 1127 = .ok (.iconst 5, 1) := by decide +kernel
theorem dL_law_1128 : decode cL_law 1128 = .ok (.iadd, 1) := by decide +kernel
theorem dL_law_1129 : decode cL_law 1129 = .ok (.iaload, 1) := by decide +kernel
theorem dL_law_1130 : decode cL_law 1130 = .ok (.invokevirtual 137, 3) := by decide +kernel
theorem dL_law_1133 : decode cL_law 1133 = .ok (.if_icmp .eq 231, 3) := by decide +kernel
theorem dL_law_1136 : decode cL_law 1136 = .ok (.iconst 0, 1) := by decide +kernel
theorem dL_law_1137 : decode cL_law 1137 = .ok (.ireturn, 1) := by decide +kernel
theorem dL_law_1138 : decode cL_law 1138 = .ok (.aload_n 1, 1) := by decide +kernel
theorem dL_law_1139 : decode cL_law 1139 = .ok (.aload_n 0, 1) := by decide +kernel
theorem dL_law_1140 : decode cL_law 1140 = .ok (.iload_n 3, 1) := by decide +kernel
theorem dL_law_1141 : decode cL_law 1141 = .ok (.iconst 1, 1) := by decide +kernel
theorem dL_law_1142 : decode cL_law 1142 = .ok (.iadd, 1) := by decide +kernel
theorem dL_law_1143 : decode cL_law 1143 = .ok (.iaload, 1) := by decide +kernel
theorem dL_law_1144 : decode cL_law 1144 = .ok (.aload_n 0, 1) := by decide +kernel
theorem dL_law_1145 : decode cL_law 1145 = .ok (.iload_n 3, 1) := by decide +kernel
theorem dL_law_1146 : decode cL_law 1146 = .ok (.iconst 2, 1) := by decide +kernel
theorem dL_law_1147 : decode cL_law 1147 = .ok (.iadd, 1) := by decide +kernel
theorem dL_law_1148 : decode cL_law 1148 = .ok (.iaload, 1) := by decide +kernel
theorem dL_law_1149 : decode cL_law 1149 = .ok (.aload_n 0, 1) := by decide +kernel
theorem dL_law_1150 : decode cL_law 1150 = .ok (.iload_n 3, 1) := by decide +kernel
theorem dL_law_1151 : decode cL_law 1151 = .ok (.iconst 3, 1) := by decide +kernel
theorem dL_law_1152 : decode cL_law 1152 = .ok (.iadd, 1) := by decide +kernel
theorem dL_law_1153 : decode cL_law 1153 = .ok (.iaload, 1) := by decide +kernel
theorem dL_law_1154 : decode cL_law 1154 = .ok (.aload_n 0, 1) := by decide +kernel
theorem dL_law_1155 : decode cL_law 1155 = .ok (.iload_n 3, 1) := by decide +kernel
theorem dL_law_1156 : decode cL_law 1156 = .ok (.iconst 4, 1) := by decide +kernel
theorem dL_law_1157 : decode cL_law 1157 = .ok (.iadd, 1) := by decide +kernel
theorem dL_law_1158 : decode cL_law 1158 = .ok (.iaload, 1) := by decide +kernel
theorem dL_law_1159 : decode cL_law 1159 = .ok (.invokevirtual 138, 3) := by decide +kernel
theorem dL_law_1162 : decode cL_law 1162 = .ok (.aload_n 2, 1) := by decide +kernel
theorem dL_law_1163 : decode cL_law 1163 = .ok (.aload_n 0, 1) := by decide +kernel
theorem dL_law_1164 : decode cL_law 1164 = .ok (.iload_n 3, 1) := by decide +kernel
theorem dL_law_1165 : decode cL_law 1165 = .ok (.iconst 1, 1) := by decide +kernel
theorem dL_law_1166 : decode cL_law 1166 = .ok (.iadd, 1) := by decide +kernel
theorem dL_law_1167 : decode cL_law 1167 = .ok (.iaload, 1) := by decide +kernel
theorem dL_law_1168 : decode cL_law 1168 = .ok (.aload_n 0, 1) := by decide +kernel
theorem dL_law_1169 : decode cL_law 1169 = .ok (.iload_n 3, 1) := by decide +kernel
theorem dL_law_1170 : decode cL_law 1170 = .ok (.iconst 2, 1) := by decide +kernel
theorem dL_law_1171 : decode cL_law 1171 = .ok (.iadd, 1) := by decide +kernel
theorem dL_law_1172 : decode cL_law 1172 = .ok (.iaload, 1) := by decide +kernel
theorem dL_law_1173 : decode cL_law 1173 = .ok (.aload_n 0, 1) := by decide +kernel
theorem dL_law_1174 : decode cL_law 1174 = .ok (.iload_n 3, 1) := by decide +kernel
theorem dL_law_1175 : decode cL_law 1175 = .ok (.iconst 3, 1) := by decide +kernel
theorem dL_law_1176 : decode cL_law 1176 = .ok (.iadd, 1) := by decide +kernel
theorem dL_law_1177 : decode cL_law 1177 = .ok (.iaload, 1) := by decide +kernel
theorem dL_law_1178 : decode cL_law 1178 = .ok (.aload_n 0, 1) := by decide +kernel
theorem dL_law_1179 : decode cL_law 1179 = .ok (.iload_n 3, 1) := by decide +kernel
theorem dL_law_1180 : decode cL_law 1180 = .ok (.iconst 4, 1) := by decide +kernel
theorem dL_law_1181 : decode cL_law 1181 = .ok (.iadd, 1) := by decide +kernel
theorem dL_law_1182 : decode cL_law 1182 = .ok (.iaload, 1) := by decide +kernel
theorem dL_law_1183 : decode cL_law 1183 = .ok (.invokevirtual 141, 3) := by decide +kernel
theorem dL_law_1186 : decode cL_law 1186 = .ok (.if_icmp .eq 178, 3) := by decide +kernel
theorem dL_law_1189 : decode cL_law 1189 = .ok (.iconst 0, 1) := by decide +kernel
theorem dL_law_1190 : decode cL_law 1190 = .ok (.ireturn, 1) := by decide +kernel
theorem dL_law_1191 : decode cL_law 1191 = .ok (.aload_n 1, 1) := by decide +kernel
theorem dL_law_1192 : decode cL_law 1192 = .ok (.aload_n 0, 1) := by decide +kernel
theorem dL_law_1193 : decode cL_law 1193 = .ok (.iload_n 3, 1) := by decide +kernel
theorem dL_law_1194 : decode cL_law 1194 = .ok (.iconst 1, 1) := by decide +kernel
theorem dL_law_1195 : decode cL_law 1195 = .ok (.iadd, 1) := by decide +kernel
theorem dL_law_1196 : decode cL_law 1196 = .ok (.iaload, 1) := by decide +kernel
theorem dL_law_1197 : decode cL_law 1197 = .ok (.aload_n 0, 1) := by decide +kernel
theorem dL_law_1198 : decode cL_law 1198 = .ok (.iload_n 3, 1) := by decide +kernel
theorem dL_law_1199 : decode cL_law 1199 = .ok (.iconst 2, 1) := by decide +kernel
theorem dL_law_1200 : decode cL_law 1200 = .ok (.iadd, 1) := by decide +kernel
theorem dL_law_1201 : decode cL_law 1201 = .ok (.iaload, 1) := by decide +kernel
theorem dL_law_1202 : decode cL_law 1202 = .ok (.aload_n 0, 1) := by decide +kernel
theorem dL_law_1203 : decode cL_law 1203 = .ok (.iload_n 3, 1) := by decide +kernel
theorem dL_law_1204 : decode cL_law 1204 = .ok (.iconst 3, 1) := by decide +kernel
theorem dL_law_1205 : decode cL_law 1205 = .ok (.iadd, 1) := by decide +kernel
theorem dL_law_1206 : decode cL_law 1206 = .ok (.iaload, 1) := by decide +kernel
theorem dL_law_1207 : decode cL_law 1207 = .ok (.aload_n 0, 1) := by decide +kernel
theorem dL_law_1208 : decode cL_law 1208 = .ok (.iload_n 3, 1) := by decide +kernel
theorem dL_law_1209 : decode cL_law 1209 = .ok (.iconst 4, 1) := by decide +kernel
theorem dL_law_1210 : decode cL_law 1210 = .ok (.iadd, 1) := by decide +kernel
theorem dL_law_1211 : decode cL_law 1211 = .ok (.iaload, 1) := by decide +kernel
theorem dL_law_1212 : decode cL_law 1212 = .ok (.aload_n 0, 1) := by decide +kernel
theorem dL_law_1213 : decode cL_law 1213 = .ok (.iload_n 3, 1) := by decide +kernel
theorem dL_law_1214 : decode cL_law 1214 = .ok (.iconst 5, 1) := by decide +kernel
theorem dL_law_1215 : decode cL_law 1215 = .ok (.iadd, 1) := by decide +kernel
theorem dL_law_1216 : decode cL_law 1216 = .ok (.iaload, 1) := by decide +kernel
theorem dL_law_1217 : decode cL_law 1217 = .ok (.aload_n 0, 1) := by decide +kernel
theorem dL_law_1218 : decode cL_law 1218 = .ok (.iload_n 3, 1) := by decide +kernel
theorem dL_law_1219 : decode cL_law 1219 = .ok (.bipush 6, 2) := by decide +kernel
theorem dL_law_1221 : decode cL_law 1221 = .ok (.iadd, 1) := by decide +kernel
theorem dL_law_1222 : decode cL_law 1222 = .ok (.iaload, 1) := by decide +kernel
theorem dL_law_1223 : decode cL_law 1223 = .ok (.invokevirtual 142, 3) := by decide +kernel
theorem dL_law_1226 : decode cL_law 1226 = .ok (.aload_n 2, 1) := by decide +kernel
theorem dL_law_1227 : decode cL_law 1227 = .ok (.aload_n 0, 1) := by decide +kernel
theorem dL_law_1228 : decode cL_law 1228 = .ok (.iload_n 3, 1) := by decide +kernel
theorem dL_law_1229 : decode cL_law 1229 = .ok (.iconst 1, 1) := by decide +kernel
theorem dL_law_1230 : decode cL_law 1230 = .ok (.iadd, 1) := by decide +kernel
theorem dL_law_1231 : decode cL_law 1231 = .ok (.iaload, 1) := by decide +kernel
theorem dL_law_1232 : decode cL_law 1232 = .ok (.aload_n 0, 1) := by decide +kernel
theorem dL_law_1233 : decode cL_law 1233 = .ok (.iload_n 3, 1) := by decide +kernel
theorem dL_law_1234 : decode cL_law 1234 = .ok (.iconst 2, 1) := by decide +kernel
theorem dL_law_1235 : decode cL_law 1235 = .ok (.iadd, 1) := by decide +kernel
theorem dL_law_1236 : decode cL_law 1236 = .ok (.iaload, 1) := by decide +kernel
theorem dL_law_1237 : decode cL_law 1237 = .ok (.aload_n 0, 1) := by decide +kernel
theorem dL_law_1238 : decode cL_law 1238 = .ok (.iload_n 3, 1) := by decide +kernel
theorem dL_law_1239 : decode cL_law 1239 = .ok (.iconst 3, 1) := by decide +kernel
theorem dL_law_1240 : decode cL_law 1240 = .ok (.iadd, 1) := by decide +kernel
theorem dL_law_1241 : decode cL_law 1241 = .ok (.iaload, 1) := by decide +kernel
theorem dL_law_1242 : decode cL_law 1242 = .ok (.aload_n 0, 1) := by decide +kernel
theorem dL_law_1243 : decode cL_law 1243 = .ok (.iload_n 3, 1) := by decide +kernel
theorem dL_law_1244 : decode cL_law 1244 = .ok (.iconst 4, 1) := by decide +kernel
theorem dL_law_1245 : decode cL_law 1245 = .ok (.iadd, 1) := by decide +kernel
theorem dL_law_1246 : decode cL_law 1246 = .ok (.iaload, 1) := by decide +kernel
theorem dL_law_1247 : decode cL_law 1247 = .ok (.aload_n 0, 1) := by decide +kernel
theorem dL_law_1248 : decode cL_law 1248 = .ok (.iload_n 3, 1) := by decide +kernel
theorem dL_law_1249 : decode cL_law 1249 = .ok (.iconst 5, 1) := by decide +kernel
theorem dL_law_1250 : decode cL_law 1250 = .ok (.iadd, 1) := by decide +kernel
theorem dL_law_1251 : decode cL_law 1251 = .ok (.iaload, 1) := by decide +kernel
theorem dL_law_1252 : decode cL_law 1252 = .ok (.aload_n 0, 1) := by decide +kernel
theorem dL_law_1253 : decode cL_law 1253 = .ok (.iload_n 3, 1) := by decide +kernel
theorem dL_law_1254 : decode cL_law 1254 = .ok (.bipush 6, 2) := by decide +kernel
theorem dL_law_1256 : decode cL_law 1256 = .ok (.iadd, 1) := by decide +kernel
theorem dL_law_1257 : decode cL_law 1257 = .ok (.iaload, 1) := by decide +kernel
theorem dL_law_1258 : decode cL_law 1258 = .ok (.invokevirtual 146, 3) := by decide +kernel
theorem dL_law_1261 : decode cL_law 1261 = .ok (.if_icmp .eq 103, 3) := by decide +kernel
theorem dL_law_1264 : decode cL_law 1264 = .ok (.iconst 0, 1) := by decide +kernel
theorem dL_law_1265 : decode cL_law 1265 = .ok (.ireturn, 1) := by decide +kernel
theorem dL_law_1266 : decode cL_law 1266 = .ok (.aload_n 1, 1) := by decide +kernel
theorem dL_law_1267 : decode cL_law 1267 = .ok (.aload_n 0, 1) := by decide +kernel
theorem dL_law_1268 : decode cL_law 1268 = .ok (.iload_n 3, 1) := by decide +kernel
theorem dL_law_1269 : decode cL_law 1269 = .ok (.iconst 1, 1) := by decide +kernel
theorem dL_law_1270 : decode cL_law 1270 = .ok (.iadd, 1) := by decide +kernel
theorem dL_law_1271 : decode cL_law 1271 = .ok (.iaload, 1) := by decide +kernel
theorem dL_law_1272 : decode cL_law 1272 = .ok (.aload_n 0, 1) := by decide +kernel
theorem dL_law_1273 : decode cL_law 1273 = .ok (.iload_n 3, 1) := by decide +kernel
theorem dL_law_1274 : decode cL_law 1274 = .ok (.iconst 2, 1) := by decide +kernel
theorem dL_law_1275 : decode cL_law 1275 = .ok (.iadd, 1) := by decide +kernel
theorem dL_law_1276 : decode cL_law 1276 = .ok (.iaload, 1) := by decide +kernel
theorem dL_law_1277 : decode cL_law 1277 = .ok (.aload_n 0, 1) := by decide +kernel
theorem dL_law_1278 : decode cL_law 1278 = .ok (.iload_n 3, 1) := by decide +kernel
theorem dL_law_1279 : decode cL_law 1279 = .ok (.iconst 3, 1) := by decide +kernel
theorem dL_law_1280 : decode cL_law 1280 = .ok (.iadd, 1) := by decide +kernel
theorem dL_law_1281 : decode cL_law 1281 = .ok (.iaload, 1) := by decide +kernel
theorem dL_law_1282 : decode cL_law 1282 = .ok (.aload_n 0, 1) := by decide +kernel
theorem dL_law_1283 : decode cL_law 1283 = .ok (.iload_n 3, 1) := by decide +kernel
theorem dL_law_1284 : decode cL_law 1284 = .ok (.iconst 4, 1) := by decide +kernel
theorem dL_law_1285 : decode cL_law 1285 = .ok (.iadd, 1) := by decide +kernel
theorem dL_law_1286 : decode cL_law 1286 = .ok (.iaload, 1) := by decide +kernel
theorem dL_law_1287 : decode cL_law 1287 = .ok (.aload_n 0, 1) := by decide +kernel
theorem dL_law_1288 : decode cL_law 1288 = .ok (.iload_n 3, 1) := by decide +kernel
theorem dL_law_1289 : decode cL_law 1289 = .ok (.iconst 5, 1) := by decide +kernel
theorem dL_law_1290 : decode cL_law 1290 = .ok (.iadd, 1) := by decide +kernel
theorem dL_law_1291 : decode cL_law 1291 = .ok (.iaload, 1) := by decide +kernel
theorem dL_law_1292 : decode cL_law 1292 = .ok (.aload_n 0, 1) := by decide +kernel
theorem dL_law_1293 : decode cL_law 1293 = .ok (.iload_n 3, 1) := by decide +kernel
theorem dL_law_1294 : decode cL_law 1294 = .ok (.bipush 6, 2) := by decide +kernel
theorem dL_law_1296 : decode cL_law 1296 = .ok (.iadd, 1) := by decide +kernel
theorem dL_law_1297 : decode cL_law 1297 = .ok (.iaload, 1) := by decide +kernel
theorem dL_law_1298 : decode cL_law 1298 = .ok (.invokevirtual 147, 3) := by decide +kernel
theorem dL_law_1301 : decode cL_law 1301 = .ok (.aload_n 2, 1) := by decide +kernel
theorem dL_law_1302 : decode cL_law 1302 = .ok (.aload_n 0, 1) := by decide +kernel
theorem dL_law_1303 : decode cL_law 1303 = .ok (.iload_n 3, 1) := by decide +kernel
theorem dL_law_1304 : decode cL_law 1304 = .ok (.iconst 1, 1) := by decide +kernel
theorem dL_law_1305 : decode cL_law 1305 = .ok (.iadd, 1) := by decide +kernel
theorem dL_law_1306 : decode cL_law 1306 = .ok (.iaload, 1) := by decide +kernel
theorem dL_law_1307 : decode cL_law 1307 = .ok (.aload_n 0, 1) := by decide +kernel
theorem dL_law_1308 : decode cL_law 1308 = .ok (.iload_n 3, 1) := by decide +kernel
theorem dL_law_1309 : decode cL_law 1309 = .ok (.iconst 2, 1) := by decide +kernel
theorem dL_law_1310 : decode cL_law 1310 = .ok (.iadd, 1) := by decide +kernel
theorem dL_law_1311 : decode cL_law 1311 = .ok (.iaload, 1) := by decide +kernel
theorem dL_law_1312 : decode cL_law 1312 = .ok (.aload_n 0, 1) := by decide +kernel
theorem dL_law_1313 : decode cL_law 1313 = .ok (.iload_n 3, 1) := by decide +kernel
theorem dL_law_1314 : decode cL_law 1314 = .ok (.iconst 3, 1) := by decide +kernel
theorem dL_law_1315 : decode cL_law 1315 = .ok (.iadd, 1) := by decide +kernel
theorem dL_law_1316 : decode cL_law 1316 = .ok (.iaload, 1) := by decide +kernel
theorem dL_law_1317 : decode cL_law 1317 = .ok (.aload_n 0, 1) := by decide +kernel
theorem dL_law_1318 : decode cL_law 1318 = .ok (.iload_n 3, 1) := by decide +kernel
theorem dL_law_1319 : decode cL_law 1319 = .ok (.iconst 4, 1) := by decide +kernel
theorem dL_law_1320 : decode cL_law 1320 = .ok (.iadd, 1) := by decide +kernel
theorem dL_law_1321 : decode cL_law 1321 = .ok (.iaload, 1) := by decide +kernel
theorem dL_law_1322 : decode cL_law 1322 = .ok (.aload_n 0, 1) := by decide +kernel
theorem dL_law_1323 : decode cL_law 1323 = .ok (.iload_n 3, 1) := by decide +kernel
theorem dL_law_1324 : decode cL_law 1324 = .ok (.iconst 5, 1) := by decide +kernel
theorem dL_law_1325 : decode cL_law 1325 = .ok (.iadd, 1) := by decide +kernel
theorem dL_law_1326 : decode cL_law 1326 = .ok (.iaload, 1) := by decide +kernel
theorem dL_law_1327 : decode cL_law 1327 = .ok (.aload_n 0, 1) := by decide +kernel
theorem dL_law_1328 : decode cL_law 1328 = .ok (.iload_n 3, 1) := by decide +kernel
theorem dL_law_1329 : decode cL_law 1329 = .ok (.bipush 6, 2) := by decide +kernel
theorem dL_law_1331 : decode cL_law 1331 = .ok (.iadd, 1) := by decide +kernel
theorem dL_law_1332 : decode cL_law 1332 = .ok (.iaload, 1) := by decide +kernel
theorem dL_law_1333 : decode cL_law 1333 = .ok (.invokevirtual 150, 3) := by decide +kernel
theorem dL_law_1336 : decode cL_law 1336 = .ok (.if_icmp .eq 28, 3) := by decide +kernel
theorem dL_law_1339 : decode cL_law 1339 = .ok (.iconst 0, 1) := by decide +kernel
theorem dL_law_1340 : decode cL_law 1340 = .ok (.ireturn, 1) := by decide +kernel
theorem dL_law_1341 : decode cL_law 1341 = .ok (.aload_n 1, 1) := by decide +kernel
theorem dL_law_1342 : decode cL_law 1342 = .ok (.aload_n 0, 1) := by decide +kernel
theorem dL_law_1343 : decode cL_law 1343 = .ok (.iload_n 3, 1) := by decide +kernel
theorem dL_law_1344 : decode cL_law 1344 = .ok (.iconst 1, 1) := by decide +kernel
theorem dL_law_1345 : decode cL_law 1345 = .ok (.iadd, 1) := by decide +kernel
theorem dL_law_1346 : decode cL_law 1346 = .ok (.iaload, 1) := by decide +kernel
theorem dL_law_1347 : decode cL_law 1347 = .ok (.invokevirtual 151, 3) := by decide +kernel
theorem dL_law_1350 : decode cL_law 1350 = .ok (.aload_n 2, 1) := by decide +kernel
theorem dL_law_1351 : decode cL_law 1351 = .ok (.aload_n 0, 1) := by decide +kernel
theorem dL_law_1352 : decode cL_law 1352 = .ok (.iload_n 3, 1) := by decide +kernel
theorem dL_law_1353 : decode cL_law 1353 = .ok (.iconst 1, 1) := by decide +kernel
theorem dL_law_1354 : decode cL_law 1354 = .ok (.iadd, 1) := by decide +kernel
theorem dL_law_1355 : decode cL_law 1355 = .ok (.iaload, 1) := by decide +kernel
theorem dL_law_1356 : decode cL_law 1356 = .ok (.invokevirtual 154, 3) := by decide +kernel
theorem dL_law_1359 : decode cL_law 1359 = .ok (.if_icmp .eq 5, 3) := by decide +kernel
theorem dL_law_1362 : decode cL_law 1362 = .ok (.iconst 0, 1) := by decide +kernel
theorem dL_law_1363 : decode cL_law 1363 = .ok (.ireturn, 1) := by decide +kernel
theorem dL_law_1364 : decode cL_law 1364 = .ok (.iinc 3 7, 3) := by decide +kernel
theorem dL_law_1367 : decode cL_law 1367 = .ok (.goto (-1349), 3) := by decide +kernel
theorem dL_law_1370 : decode cL_law 1370 = .ok (.iconst 1, 1) := by decide +kernel
theorem dL_law_1371 : decode cL_law 1371 = .ok (.ireturn, 1) := by decide +kernel
abbrev vwCl : List vw_C := [(RX0, TX0, 6), (RX1, TX1, 14), (RX2, TX2, 4), (RX3, TX3, 8), (RX4, TX4, 3), (RX5, TX5, 4), (RX6, TX6, 3), (RX7, TX7, 8), (RX8, TX8, 22)]
