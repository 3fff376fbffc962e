theorem dX8_errors_119 : decode cX8_errors 119 = .ok (.getfield 29, 3) := by decide +kernel
theorem dX8_errors_122 : decode cX8_errors 122 = .ok (.aload_n 0, 1) := by decide +kernel
theorem dX8_errors_123 : decode cX8_errors 123 = .ok (.getfield 29, 3) := by decide +kernel
theorem dX8_errors_126 : decode cX8_errors 126 = .ok (.iconst 1, 1) := by decide +kernel
theorem dX8_errors_127 : decode cX8_errors 127 = .ok (.iaload, 1) := by decide +kernel
theorem dX8_errors_128 : decode cX8_errors 128 = .ok (.aload_n 0, 1) := by decide +kernel
theorem dX8_errors_129 : decode cX8_errors 129 = .ok (.getfield 29, 3) := by decide +kernel
theorem dX8_errors_132 : decode cX8_errors 132 = .ok (.bipush 23, 2) := by decide +kernel
theorem dX8_errors_134 : decode cX8_errors 134 = .ok (.aload_n 0, 1) := by decide +kernel
theorem dX8_errors_135 : decode cX8_errors 135 = .ok (.getfield 29, 3) := by decide +kernel
theorem dX8_errors_138 : decode cX8_errors 138 = .ok (.iconst 1, 1) := by decide +kernel
theorem dX8_errors_139 : decode cX8_errors 139 = .ok (.iaload, 1) := by decide +kernel
theorem dX8_errors_140 : decode cX8_errors 140 = .ok (.iadd, 1) := by decide +kernel
theorem dX8_errors_141 : decode cX8_errors 141 = .ok (.iaload, 1) := by decide +kernel
theorem dX8_errors_142 : decode cX8_errors 142 = .ok (.iload 11, 2) := by decide +kernel
theorem dX8_errors_144 : decode cX8_errors 144 = .ok (.invokestatic 122, 3) := by decide +kernel
theorem dX8_errors_147 : decode cX8_errors 147 = .ok (.istore 12, 2) := by decide +kernel
theorem dX8_errors_149 : decode cX8_errors 149 = .ok (.iload 8, 2) := by decide +kernel
theorem dX8_errors_151 : decode cX8_errors 151 = .ok (.iload 7, 2) := by decide +kernel
theorem dX8_errors_153 : decode cX8_errors 153 = .ok (.iload 10, 2) := by decide +kernel
theorem dX8_errors_155 : decode cX8_errors 155 = .ok (.invokestatic 164, 3) := by decide +kernel
theorem dX8_errors_158 : decode cX8_errors 158 = .ok (.ifCond .eq 7, 3) := by decide +kernel
theorem dX8_errors_161 : decode cX8_errors 161 = .ok (.iload_n 3, 1) := by decide +kernel
theorem dX8_errors_162 : decode cX8_errors 162 = .ok (.goto 7, 3) := by decide +kernel
theorem dX8_errors_165 : decode cX8_errors 165 = .ok (.bipush 10, 2) := by decide +kernel
theorem dX8_errors_167 : decode cX8_errors 167 = .ok (.iload_n 3, 1) := by decide +kernel
theorem dX8_errors_168 : decode cX8_errors 168 = .ok (.isub, 1) := by decide +kernel
theorem dX8_errors_169 : decode cX8_errors 169 = .ok (.imul, 1) := by decide +kernel
theorem dX8_errors_170 : decode cX8_errors 170 = .ok (.istore 8, 2) := by decide +kernel
theorem dX8_errors_172 : decode cX8_errors 172 = .ok (.aload_n 0, 1) := by decide +kernel
theorem dX8_errors_173 : decode cX8_errors 173 = .ok (.getfield 29, 3) := by decide +kernel
theorem dX8_errors_176 : decode cX8_errors 176 = .ok (.iload 7, 2) := by decide +kernel
theorem dX8_errors_178 : decode cX8_errors 178 = .ok (.iload 10, 2) := by decide +kernel
theorem dX8_errors_180 : decode cX8_errors 180 = .ok (.invokestatic 164, 3) := by decide +kernel
theorem dX8_errors_183 : decode cX8_errors 183 = .ok (.ifCond .eq 8, 3) := by decide +kernel
theorem dX8_errors_186 : decode cX8_errors 186 = .ok (.iload 12, 2) := by decide +kernel
theorem dX8_errors_188 : decode cX8_errors 188 = .ok (.goto 5, 3) := by decide +kernel
theorem dX8_errors_191 : decode cX8_errors 191 = .ok (.bipush (-4), 2) := by decide +kernel
theorem dX8_errors_193 : decode cX8_errors 193 = .ok (.invokestatic 143, 3) := by decide +kernel
theorem dX8_errors_196 : decode cX8_errors 196 = .ok (.istore 9, 2) := by decide +kernel
theorem dX8_errors_198 : decode cX8_errors 198 = .ok (.iinc 10 1, 3) := by decide +kernel
theorem dX8_errors_201 : decode cX8_errors 201 = .ok (.goto (-97), 3) := by decide +kernel
theorem dX8_errors_204 : decode cX8_errors 204 = .ok (.iload 5, 2) := by decide +kernel
theorem dX8_errors_206 : decode cX8_errors 206 = .ok (.iload 9, 2) := by decide +kernel
theorem dX8_errors_208 : decode cX8_errors 208 = .ok (.iload_n 1, 1) := by decide +kernel
theorem dX8_errors_209 : decode cX8_errors 209 = .ok (.if_icmp .ne 8, 3) := by decide +kernel
theorem dX8_errors_212 : decode cX8_errors 212 = .ok (.iload 8, 2) := by decide +kernel
theorem dX8_errors_214 : decode cX8_errors 214 = .ok (.goto 4, 3) := by decide +kernel
theorem dX8_errors_217 : decode cX8_errors 217 = .ok (.iconst 0, 1) := by decide +kernel
theorem dX8_errors_218 : decode cX8_errors 218 = .ok (.iadd, 1) := by decide +kernel
theorem dX8_errors_219 : decode cX8_errors 219 = .ok (.istore 5, 2) := by decide +kernel
theorem dX8_errors_221 : decode cX8_errors 221 = .ok (.iinc 7 1, 3) := by decide +kernel
theorem dX8_errors_224 : decode cX8_errors 224 = .ok (.goto (-142), 3) := by decide +kernel
theorem dX8_errors_227 : decode cX8_errors 227 = .ok (.iload 5, 2) := by decide +kernel
theorem dX8_errors_229 : decode cX8_errors 229 = .ok (.iload 6, 2) := by decide +kernel
theorem dX8_errors_231 : decode cX8_errors 231 = .ok (.iload 4, 2) := by decide +kernel
theorem dX8_errors_233 : decode cX8_errors 233 = .ok (.invokestatic 219, 3) := by decide +kernel
theorem dX8_errors_236 : decode cX8_errors 236 = .ok (.ireturn, 1) := by decide +kernel
theorem dX8_griefs_0 : decode cX8_griefs 0 = .ok (.iconst 0, 1) := by decide +kernel
theorem dX8_griefs_1 : decode cX8_griefs 1 = .ok (.istore_n 1, 1) := by decide +kernel
theorem dX8_griefs_2 : decode cX8_griefs 2 = .ok (.iconst 0, 1) := by decide +kernel
theorem dX8_griefs_3 : decode cX8_griefs 3 = .ok (.istore_n 2, 1) := by decide +kernel
theorem dX8_griefs_4 : decode cX8_griefs 4 = .ok (.iload_n 2, 1) := by decide +kernel
theorem dX8_griefs_5 : decode cX8_griefs 5 = .ok (.aload_n 0, 1) := by decide +kernel
theorem dX8_griefs_6 : decode cX8_griefs 6 = .ok (.iconst 2, 1) := by decide +kernel
theorem dX8_griefs_7 : decode cX8_griefs 7 = .ok (.iaload, 1) := by decide +kernel
theorem dX8_griefs_8 : decode cX8_griefs 8 = .ok (.if_icmp .ge 18, 3) := by decide +kernel
theorem dX8_griefs_11 : decode cX8_griefs 11 = .ok (.iload_n 1, 1) := by decide +kernel
theorem dX8_griefs_12 : decode cX8_griefs 12 = .ok (.aload_n 0, 1) := by decide +kernel
theorem dX8_griefs_13 : decode cX8_griefs 13 = .ok (.bipush 11, 2) := by decide +kernel
theorem dX8_griefs_15 : decode cX8_griefs 15 = .ok (.iload_n 2, 1) := by decide +kernel
theorem dX8_griefs_16 : decode cX8_griefs 16 = .ok (.iadd, 1) := by decide +kernel
theorem dX8_griefs_17 : decode cX8_griefs 17 = .ok (.iaload, 1) := by decide +kernel
theorem dX8_griefs_18 : decode cX8_griefs 18 = .ok (.iadd, 1) := by decide +kernel
theorem dX8_griefs_19 : decode cX8_griefs 19 = .ok (.istore_n 1, 1) := by decide +kernel
theorem dX8_griefs_20 : decode cX8_griefs 20 = .ok (.iinc 2 1, 3) := by decide +kernel
theorem dX8_griefs_23 : decode cX8_griefs 23 = .ok (.goto (-19), 3) := by decide +kernel
theorem dX8_griefs_26 : decode cX8_griefs 26 = .ok (.iload_n 1, 1) := by decide +kernel
theorem dX8_griefs_27 : decode cX8_griefs 27 = .ok (.ireturn, 1) := by decide +kernel
set_option maxRecDepth 20000 in
theorem ggX8_decades_X8_in : GoodIn wsX8_decades wsX8_in := goodIn_r _ [10] (by decide +kernel) (by decide +kernel)
set_option maxRecDepth 20000 in
theorem gX8_decades_X8_in : GoodIn wsX8_decades (va_wsS RX8 60 yX8_in wsX8_in) := goodIn_app (goodIn_of _ (by decide +kernel)) ggX8_decades_X8_in
set_option maxRecDepth 20000 in
theorem ggX8_decades_X8_isThere : GoodIn wsX8_decades wsX8_isThere := goodIn_r _ [14, 15, 47, 48, 49, 50, 51, 52, 53, 54, 55, 56, 57, 58, 59, 60, 61, 62, 63, 64, 65, 66, 67, 68] (by decide +kernel) (by decide +kernel)
set_option maxRecDepth 20000 in
theorem gX8_decades_X8_isThere : GoodIn wsX8_decades (wsV RX8 154 RX8 yX8_isThere wsX8_isThere) := goodIn_app (goodIn_of _ (by decide +kernel)) ggX8_decades_X8_isThere
set_option maxRecDepth 20000 in
theorem ggX8_decades_X8_begin : GoodIn wsX8_decades wsX8_begin := goodIn_r _ [19, 15, 4, 20, 21, 9, 22, 47, 48, 49, 50, 51, 52, 53, 54, 55, 56, 57, 58, 59, 60, 61, 62, 63, 64, 65, 66, 67, 68] (by decide +kernel) (by decide +kernel)
set_option maxRecDepth 20000 in
theorem gX8_decades_X8_begin : GoodIn wsX8_decades (wsV RX8 157 RX8 yX8_begin wsX8_begin) := goodIn_app (goodIn_of _ (by decide +kernel)) ggX8_decades_X8_begin
set_option maxRecDepth 20000 in
theorem ggX8_decades_X8_hears : GoodIn wsX8_decades wsX8_hears := goodIn_r _ [25, 26, 27, 9, 28, 29, 30, 31, 32, 33, 34, 35, 36, 37, 38, 39, 40, 41, 42, 43] (by decide +kernel) (by decide +kernel)
set_option maxRecDepth 20000 in
theorem gX8_decades_X8_hears : GoodIn wsX8_decades (va_wsS RX8 143 yX8_hears wsX8_hears) := goodIn_app (goodIn_of _ (by decide +kernel)) ggX8_decades_X8_hears
set_option maxRecDepth 20000 in
theorem ggX8_decades_X8_griefs : GoodIn wsX8_decades wsX8_griefs := goodIn_r _ [46] (by decide +kernel) (by decide +kernel)
set_option maxRecDepth 20000 in
theorem gX8_decades_X8_griefs : GoodIn wsX8_decades (va_wsS RX8 231 yX8_griefs wsX8_griefs) := goodIn_app (goodIn_of _ (by decide +kernel)) ggX8_decades_X8_griefs
theorem dX8_decades_0 : decode cX8_decades 0 = .ok (.iload_n 1, 1) := by decide +kernel
theorem dX8_decades_1 : decode cX8_decades 1 = .ok (.iconst 0, 1) := by decide +kernel
theorem dX8_decades_2 : decode cX8_decades 2 = .ok (.bipush 60, 2) := by decide +kernel
theorem dX8_decades_4 : decode cX8_decades 4 = .ok (.invokestatic 60, 3) := by decide +kernel
theorem dX8_decades_7 : decode cX8_decades 7 = .ok (.ifCond .eq 22, 3) := by decide +kernel
theorem dX8_decades_10 : decode cX8_decades 10 = .ok (.iload_n 2, 1) := by decide +kernel
theorem dX8_decades_11 : decode cX8_decades 11 = .ok (.iconst 1, 1) := by decide +kernel
theorem dX8_decades_12 : decode cX8_decades 12 = .ok (.ldc 222, 2) := by decide +kernel
theorem dX8_decades_14 : decode cX8_decades 14 = .ok (.invokestatic 60, 3) := by decide +kernel
theorem dX8_decades_17 : decode cX8_decades 17 = .ok (.ifCond .eq 12, 3) := by decide +kernel
theorem dX8_decades_20 : decode cX8_decades 20 = .ok (.iload_n 3, 1) := by decide +kernel
theorem dX8_decades_21 : decode cX8_decades 21 = .ok (.iconst 0, 1) := by decide +kernel
theorem dX8_decades_22 : decode cX8_decades 22 = .ok (.iconst 1, 1) := by decide +kernel
theorem dX8_decades_23 : decode cX8_decades 23 = .ok (.invokestatic 60, 3) := by decide +kernel
theorem dX8_decades_26 : decode cX8_decades 26 = .ok (.ifCond .ne 5, 3) := by decide +kernel
theorem dX8_decades_29 : decode cX8_decades 29 = .ok (.iconst (-1), 1) := by decide +kernel
theorem dX8_decades_30 : decode cX8_decades 30 = .ok (.ireturn, 1) := by decide +kernel
theorem dX8_decades_31 : decode cX8_decades 31 = .ok (.aload_n 0, 1) := by decide +kernel
theorem dX8_decades_32 : decode cX8_decades 32 = .ok (.invokevirtual 154, 3) := by decide +kernel
theorem dX8_decades_35 : decode cX8_decades 35 = .ok (.ifCond .ne 6, 3) := by decide +kernel
theorem dX8_decades_38 : decode cX8_decades 38 = .ok (.bipush (-2), 2) := by decide +kernel
theorem dX8_decades_40 : decode cX8_decades 40 = .ok (.ireturn, 1) := by decide +kernel
theorem dX8_decades_41 : decode cX8_decades 41 = .ok (.aload_n 0, 1) := by decide +kernel
theorem dX8_decades_42 : decode cX8_decades 42 = .ok (.invokevirtual 157, 3) := by decide +kernel
theorem dX8_decades_45 : decode cX8_decades 45 = .ok (.iload_n 2, 1) := by decide +kernel
theorem dX8_decades_46 : decode cX8_decades 46 = .ok (.i2l, 1) := by decide +kernel
theorem dX8_decades_47 : decode cX8_decades 47 = .ok (.lstore 4, 2) := by decide +kernel
theorem dX8_decades_49 : decode cX8_decades 49 = .ok (.iconst 0, 1) := by decide +kernel
theorem dX8_decades_50 : decode cX8_decades 50 = .ok (.istore 6, 2) := by decide +kernel
theorem dX8_decades_52 : decode cX8_decades 52 = .ok (.iload 6, 2) := by decide +kernel
theorem dX8_decades_54 : decode cX8_decades 54 = .ok (.iload_n 1, 1) := by decide +kernel
theorem dX8_decades_55 : decode cX8_decades 55 = .ok (.if_icmp .ge 122, 3) := by decide +kernel
theorem dX8_decades_58 : decode cX8_decades 58 = .ok (.lload 4, 2) := by decide +kernel
theorem dX8_decades_60 : decode cX8_decades 60 = .ok (.ldc2_w 223, 3) := by decide +kernel
theorem dX8_decades_63 : decode cX8_decades 63 = .ok (.lmul, 1) := by decide +kernel
theorem dX8_decades_64 : decode cX8_decades 64 = .ok (.ldc2_w 225, 3) := by decide +kernel
theorem dX8_decades_67 : decode cX8_decades 67 = .ok (.lrem, 1) := by decide +kernel
theorem dX8_decades_68 : decode cX8_decades 68 = .ok (.lstore 4, 2) := by decide +kernel
theorem dX8_decades_70 : decode cX8_decades 70 = .ok (.aload_n 0, 1) := by decide +kernel
theorem dX8_decades_71 : decode cX8_decades 71 = .ok (.getfield 29, 3) := by decide +kernel
theorem dX8_decades_74 : decode cX8_decades 74 = .ok (.iconst 0, 1) := by decide +kernel
theorem dX8_decades_75 : decode cX8_decades 75 = .ok (.aload_n 0, 1) := by decide +kernel
theorem dX8_decades_76 : decode cX8_decades 76 = .ok (.getfield 29, 3) := by decide +kernel
theorem dX8_decades_79 : decode cX8_decades 79 = .ok (.iconst 0, 1) := by decide +kernel
theorem dX8_decades_80 : decode cX8_decades 80 = .ok (.iaload, 1) := by decide +kernel
theorem dX8_decades_81 : decode cX8_decades 81 = .ok (.aload_n 0, 1) := by decide +kernel
theorem dX8_decades_82 : decode cX8_decades 82 = .ok (.getfield 29, 3) := by decide +kernel
theorem dX8_decades_85 : decode cX8_decades 85 = .ok (.iconst 4, 1) := by decide +kernel
theorem dX8_decades_86 : decode cX8_decades 86 = .ok (.iaload, 1) := by decide +kernel
theorem dX8_decades_87 : decode cX8_decades 87 = .ok (.if_icmp .ne 7, 3) := by decide +kernel
theorem dX8_decades_90 : decode cX8_decades 90 = .ok (.iconst 0, 1) := by decide +kernel
theorem dX8_decades_91 : decode cX8_decades 91 = .ok (.goto 9, 3) := by decide +kernel
theorem dX8_decades_94 : decode cX8_decades 94 = .ok (.aload_n 0, 1) := by decide +kernel
theorem dX8_decades_95 : decode cX8_decades 95 = .ok (.getfield 29, 3) := by decide +kernel
theorem dX8_decades_98 : decode cX8_decades 98 = .ok (.iconst 0, 1) := by decide +kernel
theorem dX8_decades_99 : decode cX8_decades 99 = .ok (.iaload, 1) := by decide +kernel
theorem dX8_decades_100 : decode cX8_decades 100 = .ok (.iastore, 1) := by decide +kernel
theorem dX8_decades_101 : decode cX8_decades 101 = .ok (.aload_n 0, 1) := by decide +kernel
theorem dX8_decades_102 : decode cX8_decades 102 = .ok (.getfield 29, 3) := by decide +kernel
theorem dX8_decades_105 : decode cX8_decades 105 = .ok (.iconst 0, 1) := by decide +kernel
theorem dX8_decades_106 : decode cX8_decades 106 = .ok (.iaload, 1) := by decide +kernel
theorem dX8_decades_107 : decode cX8_decades 107 = .ok (.istore 7, 2) := by decide +kernel
theorem dX8_decades_109 : decode cX8_decades 109 = .ok (.lload 4, 2) := by decide +kernel
theorem dX8_decades_111 : decode cX8_decades 111 = .ok (.ldc2_w 227, 3) := by decide +kernel
theorem dX8_decades_114 : decode cX8_decades 114 = .ok (.ldiv, 1) := by decide +kernel
theorem dX8_decades_115 : decode cX8_decades 115 = .ok (.ldc2_w 229, 3) := by decide +kernel
theorem dX8_decades_118 : decode cX8_decades 118 = .ok (.lrem, 1) := by decide +kernel
theorem dX8_decades_119 : decode cX8_decades 119 = .ok (.lstore 8, 2) := by decide +kernel
theorem dX8_decades_121 : decode cX8_decades 121 = .ok (.aload_n 0, 1) := by decide +kernel
theorem dX8_decades_122 : decode cX8_decades 122 = .ok (.getfield 29, 3) := by decide +kernel
theorem dX8_decades_125 : decode cX8_decades 125 = .ok (.lload 8, 2) := by decide +kernel
theorem dX8_decades_127 : decode cX8_decades 127 = .ok (.lconst 0, 1) := by decide +kernel
theorem dX8_decades_128 : decode cX8_decades 128 = .ok (.lcmp, 1) := by decide +kernel
theorem dX8_decades_129 : decode cX8_decades 129 = .ok (.ifCond .ne 16, 3) := by decide +kernel
theorem dX8_decades_132 : decode cX8_decades 132 = .ok (.aload_n 0, 1) := by decide +kernel
theorem dX8_decades_133 : decode cX8_decades 133 = .ok (.getfield 29, 3) := by decide +kernel
theorem dX8_decades_136 : decode cX8_decades 136 = .ok (.bipush 35, 2) := by decide +kernel
theorem dX8_decades_138 : decode cX8_decades 138 = .ok (.iload 7, 2) := by decide +kernel
theorem dX8_decades_140 : decode cX8_decades 140 = .ok (.iadd, 1) := by decide +kernel
theorem dX8_decades_141 : decode cX8_decades 141 = .ok (.iaload, 1) := by decide +kernel
theorem dX8_decades_142 : decode cX8_decades 142 = .ok (.goto 25, 3) := by decide +kernel
theorem dX8_decades_145 : decode cX8_decades 145 = .ok (.lload 8, 2) := by decide +kernel
theorem dX8_decades_147 : decode cX8_decades 147 = .ok (.lconst 1, 1) := by decide +kernel
theorem dX8_decades_148 : decode cX8_decades 148 = .ok (.lcmp, 1) := by decide +kernel
theorem dX8_decades_149 : decode cX8_decades 149 = .ok (.ifCond .ne 16, 3) := by decide +kernel
theorem dX8_decades_152 : decode cX8_decades 152 = .ok (.aload_n 0, 1) := by decide +kernel
theorem dX8_decades_153 : decode cX8_decades 153 = .ok (.getfield 29, 3) := by decide +kernel
theorem dX8_decades_156 : decode cX8_decades 156 = .ok (.bipush 47, 2) := by decide +kernel
theorem dX8_decades_158 : decode cX8_decades 158 = .ok (.iload 7, 2) := by decide +kernel
theorem dX8_decades_160 : decode cX8_decades 160 = .ok (.iadd, 1) := by decide +kernel
theorem dX8_decades_161 : decode cX8_decades 161 = .ok (.iaload, 1) := by decide +kernel
theorem dX8_decades_162 : decode cX8_decades 162 = .ok (.goto 5, 3) := by decide +kernel
theorem dX8_decades_165 : decode cX8_decades 165 = .ok (.bipush (-4), 2) := by decide +kernel
theorem dX8_decades_167 : decode cX8_decades 167 = .ok (.invokestatic 143, 3) := by decide +kernel
theorem dX8_decades_170 : decode cX8_decades 170 = .ok (.pop, 1) := by decide +kernel
theorem dX8_decades_171 : decode cX8_decades 171 = .ok (.iinc 6 1, 3) := by decide +kernel
theorem dX8_decades_174 : decode cX8_decades 174 = .ok (.goto (-122), 3) := by decide +kernel
theorem dX8_decades_177 : decode cX8_decades 177 = .ok (.iload_n 3, 1) := by decide +kernel
theorem dX8_decades_178 : decode cX8_decades 178 = .ok (.ifCond .ne 13, 3) := by decide +kernel
theorem dX8_decades_181 : decode cX8_decades 181 = .ok (.aload_n 0, 1) := by decide +kernel
theorem dX8_decades_182 : decode cX8_decades 182 = .ok (.getfield 29, 3) := by decide +kernel
theorem dX8_decades_185 : decode cX8_decades 185 = .ok (.invokestatic 231, 3) := by decide +kernel
theorem dX8_decades_188 : decode cX8_decades 188 = .ok (.goto 9, 3) := by decide +kernel
theorem dX8_decades_191 : decode cX8_decades 191 = .ok (.aload_n 0, 1) := by decide +kernel
theorem dX8_decades_192 : decode cX8_decades 192 = .ok (.getfield 29, 3) := by decide +kernel
theorem dX8_decades_195 : decode cX8_decades 195 = .ok (.iconst 1, 1) := by decide +kernel
theorem dX8_decades_196 : decode cX8_decades 196 = .ok (.iaload, 1) := by decide +kernel
theorem dX8_decades_197 : decode cX8_decades 197 = .ok (.ireturn, 1) := by decide +kernel
set_option maxRecDepth 20000 in
theorem ggX8_isSheet_X8_in : GoodIn wsX8_isSheet wsX8_in := goodIn_r _ [4] (by decide +kernel) (by decide +kernel)
set_option maxRecDepth 20000 in
theorem gX8_isSheet_X8_in : GoodIn wsX8_isSheet (va_wsS RX8 60 yX8_in wsX8_in) := goodIn_app (goodIn_of _ (by decide +kernel)) ggX8_isSheet_X8_in
theorem dX8_isSheet_0 : decode cX8_isSheet 0 = .ok (.iload_n 0, 1) := by decide +kernel
theorem dX8_isSheet_1 : decode cX8_isSheet 1 = .ok (.iconst 0, 1) := by decide +kernel
theorem dX8_isSheet_2 : decode cX8_isSheet 2 = .ok (.iconst 3, 1) := by decide +kernel
theorem dX8_isSheet_3 : decode cX8_isSheet 3 = .ok (.invokestatic 60, 3) := by decide +kernel
theorem dX8_isSheet_6 : decode cX8_isSheet 6 = .ok (.ireturn, 1) := by decide +kernel
theorem dX8_isPart_0 : decode cX8_isPart 0 = .ok (.iload_n 1, 1) := by decide +kernel
theorem dX8_isPart_1 : decode cX8_isPart 1 = .ok (.ifCond .lt 23, 3) := by decide +kernel
theorem dX8_isPart_4 : decode cX8_isPart 4 = .ok (.iload_n 0, 1) := by decide +kernel
theorem dX8_isPart_5 : decode cX8_isPart 5 = .ok (.ifCond .lt 19, 3) := by decide +kernel
theorem dX8_isPart_8 : decode cX8_isPart 8 = .ok (.iload_n 1, 1) := by decide +kernel
theorem dX8_isPart_9 : decode cX8_isPart 9 = .ok (.iload_n 2, 1) := by decide +kernel
theorem dX8_isPart_10 : decode cX8_isPart 10 = .ok (.if_icmp .gt 14, 3) := by decide +kernel
theorem dX8_isPart_13 : decode cX8_isPart 13 = .ok (.iload_n 0, 1) := by decide +kernel
theorem dX8_isPart_14 : decode cX8_isPart 14 = .ok (.iload_n 2, 1) := by decide +kernel
theorem dX8_isPart_15 : decode cX8_isPart 15 = .ok (.iload_n 1, 1) := by decide +kernel
theorem dX8_isPart_16 : decode cX8_isPart 16 = .ok (.isub, 1) := by decide +kernel
theorem dX8_isPart_17 : decode cX8_isPart 17 = .ok (.if_icmp .gt 7, 3) := by decide +kernel
theorem dX8_isPart_20 : decode cX8_isPart 20 = .ok (.iconst 1, 1) := by decide +kernel
theorem dX8_isPart_21 : decode cX8_isPart 21 = .ok (.goto 4, 3) := by decide +kernel
theorem dX8_isPart_24 : decode cX8_isPart 24 = .ok (.iconst 0, 1) := by decide +kernel
theorem dX8_isPart_25 : decode cX8_isPart 25 = .ok (.ireturn, 1) := by decide +kernel
set_option maxRecDepth 20000 in
theorem ggX8_wrong_X8_isPart : GoodIn wsX8_wrong wsX8_isPart := goodIn_r _ [6] (by decide +kernel) (by decide +kernel)
set_option maxRecDepth 20000 in
theorem gX8_wrong_X8_isPart : GoodIn wsX8_wrong (va_wsS RX8 235 yX8_isPart wsX8_isPart) := goodIn_app (goodIn_of _ (by decide +kernel)) ggX8_wrong_X8_isPart
theorem dX8_wrong_0 : decode cX8_wrong 0 = .ok (.aload_n 0, 1) := by decide +kernel
theorem dX8_wrong_1 : decode cX8_wrong 1 = .ok (.getfield 7, 3) := by decide +kernel
theorem dX8_wrong_4 : decode cX8_wrong 4 = .ok (.iload_n 1, 1) := by decide +kernel
theorem dX8_wrong_5 : decode cX8_wrong 5 = .ok (.iaload, 1) := by decide +kernel
theorem dX8_wrong_6 : decode cX8_wrong 6 = .ok (.ifCond .ge 8, 3) := by decide +kernel
theorem dX8_wrong_9 : decode cX8_wrong 9 = .ok (.bipush (-11), 2) := by decide +kernel
theorem dX8_wrong_11 : decode cX8_wrong 11 = .ok (.goto 39, 3) := by decide +kernel
theorem dX8_wrong_14 : decode cX8_wrong 14 = .ok (.aload_n 0, 1) := by decide +kernel
theorem dX8_wrong_15 : decode cX8_wrong 15 = .ok (.getfield 7, 3) := by decide +kernel
theorem dX8_wrong_18 : decode cX8_wrong 18 = .ok (.iload_n 1, 1) := by decide +kernel
theorem dX8_wrong_19 : decode cX8_wrong 19 = .ok (.iaload, 1) := by decide +kernel
theorem dX8_wrong_20 : decode cX8_wrong 20 = .ok (.iload_n 2, 1) := by decide +kernel
theorem dX8_wrong_21 : decode cX8_wrong 21 = .ok (.if_icmp .eq 8, 3) := by decide +kernel
theorem dX8_wrong_24 : decode cX8_wrong 24 = .ok (.bipush (-12), 2) := by decide +kernel
theorem dX8_wrong_26 : decode cX8_wrong 26 = .ok (.goto 24, 3) := by decide +kernel
theorem dX8_wrong_29 : decode cX8_wrong 29 = .ok (.iload_n 3, 1) := by decide +kernel
theorem dX8_wrong_30 : decode cX8_wrong 30 = .ok (.iload 4, 2) := by decide +kernel
theorem dX8_wrong_32 : decode cX8_wrong 32 = .ok (.aload_n 0, 1) := by decide +kernel
theorem dX8_wrong_33 : decode cX8_wrong 33 = .ok (.getfield 13, 3) := by decide +kernel
theorem dX8_wrong_36 : decode cX8_wrong 36 = .ok (.iload_n 1, 1) := by decide +kernel
theorem dX8_wrong_37 : decode cX8_wrong 37 = .ok (.iaload, 1) := by decide +kernel
theorem dX8_wrong_38 : decode cX8_wrong 38 = .ok (.invokestatic 235, 3) := by decide +kernel
theorem dX8_wrong_41 : decode cX8_wrong 41 = .ok (.ifCond .eq 7, 3) := by decide +kernel
theorem dX8_wrong_44 : decode cX8_wrong 44 = .ok (.iconst 0, 1) := by decide +kernel
theorem dX8_wrong_45 : decode cX8_wrong 45 = .ok (.goto 5, 3) := by decide +kernel
theorem dX8_wrong_48 : decode cX8_wrong 48 = .ok (.bipush (-13), 2) := by decide +kernel
theorem dX8_wrong_50 : decode cX8_wrong 50 = .ok (.ireturn, 1) := by decide +kernel
set_option maxRecDepth 20000 in
theorem ggX8_sheet_X8_isSheet : GoodIn wsX8_sheet wsX8_isSheet := goodIn_r _ [7, 8, 9, 6, 10] (by decide +kernel) (by decide +kernel)
set_option maxRecDepth 20000 in
theorem gX8_sheet_X8_isSheet : GoodIn wsX8_sheet (va_wsS RX8 238 yX8_isSheet wsX8_isSheet) := goodIn_app (goodIn_of _ (by decide +kernel)) ggX8_sheet_X8_isSheet
set_option maxRecDepth 20000 in
theorem ggX8_sheet_X8_in : GoodIn wsX8_sheet wsX8_in := goodIn_r _ [10] (by decide +kernel) (by decide +kernel)
set_option maxRecDepth 20000 in
theorem gX8_sheet_X8_in : GoodIn wsX8_sheet (va_wsS RX8 60 yX8_in wsX8_in) := goodIn_app (goodIn_of _ (by decide +kernel)) ggX8_sheet_X8_in
theorem dX8_sheet_0 : decode cX8_sheet 0 = .ok (.iload_n 1, 1) := by decide +kernel
theorem dX8_sheet_1 : decode cX8_sheet 1 = .ok (.invokestatic 238, 3) := by decide +kernel
theorem dX8_sheet_4 : decode cX8_sheet 4 = .ok (.ifCond .eq 18, 3) := by decide +kernel
theorem dX8_sheet_7 : decode cX8_sheet 7 = .ok (.iload_n 2, 1) := by decide +kernel
theorem dX8_sheet_8 : decode cX8_sheet 8 = .ok (.iconst 0, 1) := by decide +kernel
theorem dX8_sheet_9 : decode cX8_sheet 9 = .ok (.iconst 3, 1) := by decide +kernel
theorem dX8_sheet_10 : decode cX8_sheet 10 = .ok (.invokestatic 60, 3) := by decide +kernel
theorem dX8_sheet_13 : decode cX8_sheet 13 = .ok (.ifCond .eq 9, 3) := by decide +kernel
theorem dX8_sheet_16 : decode cX8_sheet 16 = .ok (.iload_n 3, 1) := by decide +kernel
theorem dX8_sheet_17 : decode cX8_sheet 17 = .ok (.bipush 24, 2) := by decide +kernel
theorem dX8_sheet_19 : decode cX8_sheet 19 = .ok (.if_icmp .le 5, 3) := by decide +kernel
theorem dX8_sheet_22 : decode cX8_sheet 22 = .ok (.iconst (-1), 1) := by decide +kernel
theorem dX8_sheet_23 : decode cX8_sheet 23 = .ok (.ireturn, 1) := by decide +kernel
theorem dX8_sheet_24 : decode cX8_sheet 24 = .ok (.iload_n 3, 1) := by decide +kernel
theorem dX8_sheet_25 : decode cX8_sheet 25 = .ok (.ifCond .ge 6, 3) := by decide +kernel
theorem dX8_sheet_28 : decode cX8_sheet 28 = .ok (.bipush (-14), 2) := by decide +kernel
theorem dX8_sheet_30 : decode cX8_sheet 30 = .ok (.ireturn, 1) := by decide +kernel
theorem dX8_sheet_31 : decode cX8_sheet 31 = .ok (.aload_n 0, 1) := by decide +kernel
theorem dX8_sheet_32 : decode cX8_sheet 32 = .ok (.getfield 7, 3) := by decide +kernel
theorem dX8_sheet_35 : decode cX8_sheet 35 = .ok (.iload_n 1, 1) := by decide +kernel
theorem dX8_sheet_36 : decode cX8_sheet 36 = .ok (.iload_n 2, 1) := by decide +kernel
theorem dX8_sheet_37 : decode cX8_sheet 37 = .ok (.iastore, 1) := by decide +kernel
theorem dX8_sheet_38 : decode cX8_sheet 38 = .ok (.aload_n 0, 1) := by decide +kernel
theorem dX8_sheet_39 : decode cX8_sheet 39 = .ok (.getfield 13, 3) := by decide +kernel
theorem dX8_sheet_42 : decode cX8_sheet 42 = .ok (.iload_n 1, 1) := by decide +kernel
theorem dX8_sheet_43 : decode cX8_sheet 43 = .ok (.iload_n 3, 1) := by decide +kernel
theorem dX8_sheet_44 : decode cX8_sheet 44 = .ok (.iastore, 1) := by decide +kernel
theorem dX8_sheet_45 : decode cX8_sheet 45 = .ok (.iconst 0, 1) := by decide +kernel
theorem dX8_sheet_46 : decode cX8_sheet 46 = .ok (.istore 4, 2) := by decide +kernel
theorem dX8_sheet_48 : decode cX8_sheet 48 = .ok (.iload 4, 2) := by decide +kernel
theorem dX8_sheet_50 : decode cX8_sheet 50 = .ok (.bipush 24, 2) := by decide +kernel
theorem dX8_sheet_52 : decode cX8_sheet 52 = .ok (.if_icmp .ge 22, 3) := by decide +kernel
theorem dX8_sheet_55 : decode cX8_sheet 55 = .ok (.aload_n 0, 1) := by decide +kernel
theorem dX8_sheet_56 : decode cX8_sheet 56 = .ok (.getfield 16, 3) := by decide +kernel
theorem dX8_sheet_59 : decode cX8_sheet 59 = .ok (.bipush 24, 2) := by decide +kernel
theorem dX8_sheet_61 : decode cX8_sheet 61 = .ok (.iload_n 1, 1) := by decide +kernel
theorem dX8_sheet_62 : decode cX8_sheet 62 = .ok (.imul, 1) := by decide +kernel
theorem dX8_sheet_63 : decode cX8_sheet 63 = .ok (.iload 4, 2) := by decide +kernel
theorem dX8_sheet_65 : decode cX8_sheet 65 = .ok (.iadd, 1) := by decide +kernel
theorem dX8_sheet_66 : decode cX8_sheet 66 = .ok (.lconst 0, 1) := by decide +kernel
theorem dX8_sheet_67 : decode cX8_sheet 67 = .ok (.lastore, 1) := by decide +kernel
theorem dX8_sheet_68 : decode cX8_sheet 68 = .ok (.iinc 4 1, 3) := by decide +kernel
theorem dX8_sheet_71 : decode cX8_sheet 71 = .ok (.goto (-23), 3) := by decide +kernel
theorem dX8_sheet_74 : decode cX8_sheet 74 = .ok (.iload_n 3, 1) := by decide +kernel
theorem dX8_sheet_75 : decode cX8_sheet 75 = .ok (.ireturn, 1) := by decide +kernel
set_option maxRecDepth 20000 in
theorem ggX8_drop_X8_isSheet : GoodIn wsX8_drop wsX8_isSheet := goodIn_r _ [6, 7, 8, 5, 9] (by decide +kernel) (by decide +kernel)
set_option maxRecDepth 20000 in
theorem gX8_drop_X8_isSheet : GoodIn wsX8_drop (va_wsS RX8 238 yX8_isSheet wsX8_isSheet) := goodIn_app (goodIn_of _ (by decide +kernel)) ggX8_drop_X8_isSheet
theorem dX8_drop_0 : decode cX8_drop 0 = .ok (.iload_n 1, 1) := by decide +kernel
theorem dX8_drop_1 : decode cX8_drop 1 = .ok (.invokestatic 238, 3) := by decide +kernel
theorem dX8_drop_4 : decode cX8_drop 4 = .ok (.ifCond .ne 5, 3) := by decide +kernel
theorem dX8_drop_7 : decode cX8_drop 7 = .ok (.iconst (-1), 1) := by decide +kernel
theorem dX8_drop_8 : decode cX8_drop 8 = .ok (.ireturn, 1) := by decide +kernel
theorem dX8_drop_9 : decode cX8_drop 9 = .ok (.aload_n 0, 1) := by decide +kernel
theorem dX8_drop_10 : decode cX8_drop 10 = .ok (.getfield 7, 3) := by decide +kernel
theorem dX8_drop_13 : decode cX8_drop 13 = .ok (.iload_n 1, 1) := by decide +kernel
theorem dX8_drop_14 : decode cX8_drop 14 = .ok (.iaload, 1) := by decide +kernel
theorem dX8_drop_15 : decode cX8_drop 15 = .ok (.ifCond .ge 6, 3) := by decide +kernel
theorem dX8_drop_18 : decode cX8_drop 18 = .ok (.bipush (-11), 2) := by decide +kernel
theorem dX8_drop_20 : decode cX8_drop 20 = .ok (.ireturn, 1) := by decide +kernel
theorem dX8_drop_21 : decode cX8_drop 21 = .ok (.aload_n 0, 1) := by decide +kernel
theorem dX8_drop_22 : decode cX8_drop 22 = .ok (.getfield 7, 3) := by decide +kernel
theorem dX8_drop_25 : decode cX8_drop 25 = .ok (.iload_n 1, 1) := by decide +kernel
theorem dX8_drop_26 : decode cX8_drop 26 = .ok (.iconst (-1), 1) := by decide +kernel
theorem dX8_drop_27 : decode cX8_drop 27 = .ok (.iastore, 1) := by decide +kernel
theorem dX8_drop_28 : decode cX8_drop 28 = .ok (.aload_n 0, 1) := by decide +kernel
theorem dX8_drop_29 : decode cX8_drop 29 = .ok (.getfield 13, 3) := by decide +kernel
theorem dX8_drop_32 : decode cX8_drop 32 = .ok (.iload_n 1, 1) := by decide +kernel
theorem dX8_drop_33 : decode cX8_drop 33 = .ok (.iaload, 1) := by decide +kernel
theorem dX8_drop_34 : decode cX8_drop 34 = .ok (.ireturn, 1) := by decide +kernel
set_option maxRecDepth 20000 in
theorem ggX8_item_X8_isSheet : GoodIn wsX8_item wsX8_isSheet := goodIn_r _ [6, 7, 8, 5, 9] (by decide +kernel) (by decide +kernel)
set_option maxRecDepth 20000 in
theorem gX8_item_X8_isSheet : GoodIn wsX8_item (va_wsS RX8 238 yX8_isSheet wsX8_isSheet) := goodIn_app (goodIn_of _ (by decide +kernel)) ggX8_item_X8_isSheet
set_option maxRecDepth 20000 in
theorem ggX8_item_X8_in : GoodIn wsX8_item wsX8_in := goodIn_r _ [9] (by decide +kernel) (by decide +kernel)
set_option maxRecDepth 20000 in
theorem gX8_item_X8_in : GoodIn wsX8_item (va_wsS RX8 60 yX8_in wsX8_in) := goodIn_app (goodIn_of _ (by decide +kernel)) ggX8_item_X8_in
set_option maxRecDepth 20000 in
theorem ggX8_item_X8_wrong : GoodIn wsX8_item wsX8_wrong := goodIn_r _ [13, 14, 15, 16, 17, 5, 18, 19, 20, 21, 22, 23, 24, 25, 26, 27, 28, 29, 30, 31, 32, 33, 34, 35, 36, 37, 38, 39, 40] (by decide +kernel) (by decide +kernel)
set_option maxRecDepth 20000 in
theorem gX8_item_X8_wrong : GoodIn wsX8_item (wsV RX8 243 RX8 yX8_wrong wsX8_wrong) := goodIn_app (goodIn_of _ (by decide +kernel)) ggX8_item_X8_wrong
theorem dX8_item_0 : decode cX8_item 0 = .ok (.iload_n 1, 1) := by decide +kernel
theorem dX8_item_1 : decode cX8_item 1 = .ok (.invokestatic 238, 3) := by decide +kernel
theorem dX8_item_4 : decode cX8_item 4 = .ok (.ifCond .eq 12, 3) := by decide +kernel
theorem dX8_item_7 : decode cX8_item 7 = .ok (.iload_n 2, 1) := by decide +kernel
theorem dX8_item_8 : decode cX8_item 8 = .ok (.iconst 0, 1) := by decide +kernel
theorem dX8_item_9 : decode cX8_item 9 = .ok (.iconst 3, 1) := by decide +kernel
theorem dX8_item_10 : decode cX8_item 10 = .ok (.invokestatic 60, 3) := by decide +kernel
theorem dX8_item_13 : decode cX8_item 13 = .ok (.ifCond .ne 7, 3) := by decide +kernel
theorem dX8_item_16 : decode cX8_item 16 = .ok (.ldc2_w 241, 3) := by decide +kernel
theorem dX8_item_19 : decode cX8_item 19 = .ok (.lreturn, 1) := by decide +kernel
theorem dX8_item_20 : decode cX8_item 20 = .ok (.aload_n 0, 1) := by decide +kernel
theorem dX8_item_21 : decode cX8_item 21 = .ok (.iload_n 1, 1) := by decide +kernel
theorem dX8_item_22 : decode cX8_item 22 = .ok (.iload_n 2, 1) := by decide +kernel
theorem dX8_item_23 : decode cX8_item 23 = .ok (.iload_n 3, 1) := by decide +kernel
theorem dX8_item_24 : decode cX8_item 24 = .ok (.iconst 1, 1) := by decide +kernel
theorem dX8_item_25 : decode cX8_item 25 = .ok (.invokevirtual 243, 3) := by decide +kernel
theorem dX8_item_28 : decode cX8_item 28 = .ok (.istore 6, 2) := by decide +kernel
theorem dX8_item_30 : decode cX8_item 30 = .ok (.iload 6, 2) := by decide +kernel
theorem dX8_item_32 : decode cX8_item 32 = .ok (.ifCond .eq 7, 3) := by decide +kernel
theorem dX8_item_35 : decode cX8_item 35 = .ok (.iload 6, 2) := by decide +kernel
theorem dX8_item_37 : decode cX8_item 37 = .ok (.i2l, 1) := by decide +kernel
theorem dX8_item_38 : decode cX8_item 38 = .ok (.lreturn, 1) := by decide +kernel
theorem dX8_item_39 : decode cX8_item 39 = .ok (.aload_n 0, 1) := by decide +kernel
theorem dX8_item_40 : decode cX8_item 40 = .ok (.getfield 16, 3) := by decide +kernel
theorem dX8_item_43 : decode cX8_item 43 = .ok (.bipush 24, 2) := by decide +kernel
theorem dX8_item_45 : decode cX8_item 45 = .ok (.iload_n 1, 1) := by decide +kernel
theorem dX8_item_46 : decode cX8_item 46 = .ok (.imul, 1) := by decide +kernel
theorem dX8_item_47 : decode cX8_item 47 = .ok (.iload_n 3, 1) := by decide +kernel
theorem dX8_item_48 : decode cX8_item 48 = .ok (.iadd, 1) := by decide +kernel
theorem dX8_item_49 : decode cX8_item 49 = .ok (.iload_n 2, 1) := by decide +kernel
theorem dX8_item_50 : decode cX8_item 50 = .ok (.ifCond .ne 11, 3) := by decide +kernel
theorem dX8_item_53 : decode cX8_item 53 = .ok (.lload 4, 2) := by decide +kernel
theorem dX8_item_55 : decode cX8_item 55 = .ok (.l2i, 1) := by decide +kernel
theorem dX8_item_56 : decode cX8_item 56 = .ok (.i2b, 1) := by decide +kernel
theorem dX8_item_57 : decode cX8_item 57 = .ok (.i2l, 1) := by decide +kernel
theorem dX8_item_58 : decode cX8_item 58 = .ok (.goto 30, 3) := by decide +kernel
theorem dX8_item_61 : decode cX8_item 61 = .ok (.iload_n 2, 1) := by decide +kernel
theorem dX8_item_62 : decode cX8_item 62 = .ok (.iconst 1, 1) := by decide +kernel
theorem dX8_item_63 : decode cX8_item 63 = .ok (.if_icmp .ne 11, 3) := by decide +kernel
theorem dX8_item_66 : decode cX8_item 66 = .ok (.lload 4, 2) := by decide +kernel
theorem dX8_item_68 : decode cX8_item 68 = .ok (.l2i, 1) := by decide +kernel
theorem dX8_item_69 : decode cX8_item 69 = .ok (.i2s, 1) := by decide +kernel
theorem dX8_item_70 : decode cX8_item 70 = .ok (.i2l, 1) := by decide +kernel
theorem dX8_item_71 : decode cX8_item 71 = .ok (.goto 17, 3) := by decide +kernel
theorem dX8_item_74 : decode cX8_item 74 = .ok (.iload_n 2, 1) := by decide +kernel
theorem dX8_item_75 : decode cX8_item 75 = .ok (.iconst 2, 1) := by decide +kernel
theorem dX8_item_76 : decode cX8_item 76 = .ok (.if_icmp .ne 10, 3) := by decide +kernel
theorem dX8_item_79 : decode cX8_item 79 = .ok (.lload 4, 2) := by decide +kernel
theorem dX8_item_81 : decode cX8_item 81 = .ok (.l2i, 1) := by decide +kernel
theorem dX8_item_82 : decode cX8_item 82 = .ok (.i2l, 1) := by decide +kernel
theorem dX8_item_83 : decode cX8_item 83 = .ok (.goto 5, 3) := by decide +kernel
theorem dX8_item_86 : decode cX8_item 86 = .ok (.lload 4, 2) := by decide +kernel
theorem dX8_item_88 : decode cX8_item 88 = .ok (.lastore, 1) := by decide +kernel
theorem dX8_item_89 : decode cX8_item 89 = .ok (.aload_n 0, 1) := by decide +kernel
theorem dX8_item_90 : decode cX8_item 90 = .ok (.getfield 16, 3) := by decide +kernel
theorem dX8_item_93 : decode cX8_item 93 = .ok (.bipush 24, 2) := by decide +kernel
theorem dX8_item_95 : decode cX8_item 95 = .ok (.iload_n 1, 1) := by decide +kernel
theorem dX8_item_96 : decode cX8_item 96 = .ok (.imul, 1) := by decide +kernel
theorem dX8_item_97 : decode cX8_item 97 = .ok (.iload_n 3, 1) := by decide +kernel
theorem dX8_item_98 : decode cX8_item 98 = .ok (.iadd, 1) := by decide +kernel
theorem dX8_item_99 : decode cX8_item 99 = .ok (.laload, 1) := by decide +kernel
theorem dX8_item_100 : decode cX8_item 100 = .ok (.lreturn, 1) := by decide +kernel
set_option maxRecDepth 20000 in
theorem ggX8_copy_X8_isSheet : GoodIn wsX8_copy wsX8_isSheet := goodIn_r _ [7, 8, 9, 6, 10] (by decide +kernel) (by decide +kernel)
set_option maxRecDepth 20000 in
theorem gX8_copy_X8_isSheet : GoodIn wsX8_copy (va_wsS RX8 238 yX8_isSheet wsX8_isSheet) := goodIn_app (goodIn_of _ (by decide +kernel)) ggX8_copy_X8_isSheet
set_option maxRecDepth 20000 in
theorem ggX8_copy_X8_isPart : GoodIn wsX8_copy wsX8_isPart := goodIn_r _ [13] (by decide +kernel) (by decide +kernel)
set_option maxRecDepth 20000 in
theorem gX8_copy_X8_isPart : GoodIn wsX8_copy (va_wsS RX8 235 yX8_isPart wsX8_isPart) := goodIn_app (goodIn_of _ (by decide +kernel)) ggX8_copy_X8_isPart
theorem dX8_copy_0 : decode cX8_copy 0 = .ok (.iload_n 1, 1) := by decide +kernel
theorem dX8_copy_1 : decode cX8_copy 1 = .ok (.invokestatic 238, 3) := by decide +kernel
theorem dX8_copy_4 : decode cX8_copy 4 = .ok (.ifCond .eq 10, 3) := by decide +kernel
theorem dX8_copy_7 : decode cX8_copy 7 = .ok (.iload_n 3, 1) := by decide +kernel
theorem dX8_copy_8 : decode cX8_copy 8 = .ok (.invokestatic 238, 3) := by decide +kernel
theorem dX8_copy_11 : decode cX8_copy 11 = .ok (.ifCond .ne 5, 3) := by decide +kernel
theorem dX8_copy_14 : decode cX8_copy 14 = .ok (.iconst (-1), 1) := by decide +kernel
theorem dX8_copy_15 : decode cX8_copy 15 = .ok (.ireturn, 1) := by decide +kernel
theorem dX8_copy_16 : decode cX8_copy 16 = .ok (.aload_n 0, 1) := by decide +kernel
theorem dX8_copy_17 : decode cX8_copy 17 = .ok (.getfield 7, 3) := by decide +kernel
theorem dX8_copy_20 : decode cX8_copy 20 = .ok (.iload_n 1, 1) := by decide +kernel
theorem dX8_copy_21 : decode cX8_copy 21 = .ok (.iaload, 1) := by decide +kernel
theorem dX8_copy_22 : decode cX8_copy 22 = .ok (.ifCond .lt 12, 3) := by decide +kernel
theorem dX8_copy_25 : decode cX8_copy 25 = .ok (.aload_n 0, 1) := by decide +kernel
theorem dX8_copy_26 : decode cX8_copy 26 = .ok (.getfield 7, 3) := by decide +kernel
theorem dX8_copy_29 : decode cX8_copy 29 = .ok (.iload_n 3, 1) := by decide +kernel
theorem dX8_copy_30 : decode cX8_copy 30 = .ok (.iaload, 1) := by decide +kernel
theorem dX8_copy_31 : decode cX8_copy 31 = .ok (.ifCond .ge 6, 3) := by decide +kernel
theorem dX8_copy_34 : decode cX8_copy 34 = .ok (.bipush (-11), 2) := by decide +kernel
theorem dX8_copy_36 : decode cX8_copy 36 = .ok (.ireturn, 1) := by decide +kernel
theorem dX8_copy_37 : decode cX8_copy 37 = .ok (.aload_n 0, 1) := by decide +kernel
theorem dX8_copy_38 : decode cX8_copy 38 = .ok (.getfield 7, 3) := by decide +kernel
theorem dX8_copy_41 : decode cX8_copy 41 = .ok (.iload_n 1, 1) := by decide +kernel
theorem dX8_copy_42 : decode cX8_copy 42 = .ok (.iaload, 1) := by decide +kernel
theorem dX8_copy_43 : decode cX8_copy 43 = .ok (.aload_n 0, 1) := by decide +kernel
theorem dX8_copy_44 : decode cX8_copy 44 = .ok (.getfield 7, 3) := by decide +kernel
theorem dX8_copy_47 : decode cX8_copy 47 = .ok (.iload_n 3, 1) := by decide +kernel
theorem dX8_copy_48 : decode cX8_copy 48 = .ok (.iaload, 1) := by decide +kernel
theorem dX8_copy_49 : decode cX8_copy 49 = .ok (.if_icmp .eq 6, 3) := by decide +kernel
theorem dX8_copy_52 : decode cX8_copy 52 = .ok (.bipush (-12), 2) := by decide +kernel
theorem dX8_copy_54 : decode cX8_copy 54 = .ok (.ireturn, 1) := by decide +kernel
theorem dX8_copy_55 : decode cX8_copy 55 = .ok (.iload_n 2, 1) := by decide +kernel
theorem dX8_copy_56 : decode cX8_copy 56 = .ok (.iload 5, 2) := by decide +kernel
theorem dX8_copy_58 : decode cX8_copy 58 = .ok (.aload_n 0, 1) := by decide +kernel
theorem dX8_copy_59 : decode cX8_copy 59 = .ok (.getfield 13, 3) := by decide +kernel
theorem dX8_copy_62 : decode cX8_copy 62 = .ok (.iload_n 1, 1) := by decide +kernel
theorem dX8_copy_63 : decode cX8_copy 63 = .ok (.iaload, 1) := by decide +kernel
theorem dX8_copy_64 : decode cX8_copy 64 = .ok (.invokestatic 235, 3) := by decide +kernel
theorem dX8_copy_67 : decode cX8_copy 67 = .ok (.ifCond .eq 19, 3) := by decide +kernel
theorem dX8_copy_70 : decode cX8_copy 70 = .ok (.iload 4, 2) := by decide +kernel
theorem dX8_copy_72 : decode cX8_copy 72 = .ok (.iload 5, 2) := by decide +kernel
theorem dX8_copy_74 : decode cX8_copy 74 = .ok (.aload_n 0, 1) := by decide +kernel
theorem dX8_copy_75 : decode cX8_copy 75 = .ok (.getfield 13, 3) := by decide +kernel
theorem dX8_copy_78 : decode cX8_copy 78 = .ok (.iload_n 3, 1) := by decide +kernel
theorem dX8_copy_79 : decode cX8_copy 79 = .ok (.iaload, 1) := by decide +kernel
theorem dX8_copy_80 : decode cX8_copy 80 = .ok (.invokestatic 235, 3) := by decide +kernel
theorem dX8_copy_83 : decode cX8_copy 83 = .ok (.ifCond .ne 6, 3) := by decide +kernel
theorem dX8_copy_86 : decode cX8_copy 86 = .ok (.bipush (-13), 2) := by decide +kernel
theorem dX8_copy_88 : decode cX8_copy 88 = .ok (.ireturn, 1) := by decide +kernel
theorem dX8_copy_89 : decode cX8_copy 89 = .ok (.iload_n 1, 1) := by decide +kernel
theorem dX8_copy_90 : decode cX8_copy 90 = .ok (.iload_n 3, 1) := by decide +kernel
theorem dX8_copy_91 : decode cX8_copy 91 = .ok (.if_icmp .ne 13, 3) := by decide +kernel
theorem dX8_copy_94 : decode cX8_copy 94 = .ok (.iload 4, 2) := by decide +kernel
theorem dX8_copy_96 : decode cX8_copy 96 = .ok (.iload_n 2, 1) := by decide +kernel
theorem dX8_copy_97 : decode cX8_copy 97 = .ok (.if_icmp .le 7, 3) := by decide +kernel
theorem dX8_copy_100 : decode cX8_copy 100 = .ok (.iconst 1, 1) := by decide +kernel
theorem dX8_copy_101 : decode cX8_copy 101 = .ok (.goto 4, 3) := by decide +kernel
theorem dX8_copy_104 : decode cX8_copy 104 = .ok (.iconst 0, 1) := by decide +kernel
theorem dX8_copy_105 : decode cX8_copy 105 = .ok (.istore 6, 2) := by decide +kernel
theorem dX8_copy_107 : decode cX8_copy 107 = .ok (.iconst 0, 1) := by decide +kernel
theorem dX8_copy_108 : decode cX8_copy 108 = .ok (.istore 7, 2) := by decide +kernel
theorem dX8_copy_110 : decode cX8_copy 110 = .ok (.iload 7, 2) := by decide +kernel
theorem dX8_copy_112 : decode cX8_copy 112 = .ok (.iload 5, 2) := by decide +kernel
theorem dX8_copy_114 : decode cX8_copy 114 = .ok (.if_icmp .ge 57, 3) := by decide +kernel
theorem dX8_copy_117 : decode cX8_copy 117 = .ok (.iload 6, 2) := by decide +kernel
theorem dX8_copy_119 : decode cX8_copy 119 = .ok (.ifCond .eq 13, 3) := by decide +kernel
theorem dX8_copy_122 : decode cX8_copy 122 = .ok (.iload 5, 2) := by decide +kernel
theorem dX8_copy_124 : decode cX8_copy 124 = .ok (.iconst 1, 1) := by decide +kernel
theorem dX8_copy_125 : decode cX8_copy 125 = .ok (.isub, 1) := by decide +kernel
theorem dX8_copy_126 : decode cX8_copy 126 = .ok (.iload 7, 2) := by decide +kernel
theorem dX8_copy_128 : decode cX8_copy 128 = .ok (.isub, 1) := by decide +kernel
theorem dX8_copy_129 : decode cX8_copy 129 = .ok (.goto 5, 3) := by decide +kernel
theorem dX8_copy_132 : decode cX8_copy 132 = .ok (.iload 7, 2) := by decide +kernel
theorem dX8_copy_134 : decode cX8_copy 134 = .ok (.istore 8, 2) := by decide +kernel
theorem dX8_copy_136 : decode cX8_copy 136 = .ok (.aload_n 0, 1) := by decide +kernel
theorem dX8_copy_137 : decode cX8_copy 137 = .ok (.getfield 16, 3) := by decide +kernel
theorem dX8_copy_140 : decode cX8_copy 140 = .ok (.bipush 24, 2) := by decide +kernel
theorem dX8_copy_142 : decode cX8_copy 142 = .ok (.iload_n 3, 1) := by decide +kernel
theorem dX8_copy_143 : decode cX8_copy 143 = .ok (.imul, 1) := by decide +kernel
theorem dX8_copy_144 : decode cX8_copy 144 = .ok (.iload 4, 2) := by decide +kernel
theorem dX8_copy_146 : decode cX8_copy 146 = .ok (.iadd, 1) := by decide +kernel
theorem dX8_copy_147 : decode cX8_copy 147 = .ok (.iload 8, 2) := by decide +kernel
theorem dX8_copy_149 : decode cX8_copy 149 = .ok (.iadd, 1) := by decide +kernel
theorem dX8_copy_150 : decode cX8_copy 150 = .ok (.aload_n 0, 1) := by decide +kernel
theorem dX8_copy_151 : decode cX8_copy 151 = .ok (.getfield 16, 3) := by decide +kernel
theorem dX8_copy_154 : decode cX8_copy 154 = .ok (.bipush 24, 2) := by decide +kernel
theorem dX8_copy_156 : decode cX8_copy 156 = .ok (.iload_n 1, 1) := by decide +kernel
theorem dX8_copy_157 : decode cX8_copy 157 = .ok (.imul, 1) := by decide +kernel
theorem dX8_copy_158 : decode cX8_copy 158 = .ok (.iload_n 2, 1) := by decide +kernel
theorem dX8_copy_159 : decode cX8_copy 159 = .ok (.iadd, 1) := by decide +kernel
theorem dX8_copy_160 : decode cX8_copy 160 = .ok (.iload 8, 2) := by decide +kernel
theorem dX8_copy_162 : decode cX8_copy 162 = .ok (.iadd, 1) := by decide +kernel
theorem dX8_copy_163 : decode cX8_copy 163 = .ok (.laload, 1) := by decide +kernel
theorem dX8_copy_164 : decode cX8_copy 164 = .ok (.lastore, 1) := by decide +kernel
theorem dX8_copy_165 : decode cX8_copy 165 = .ok (.iinc 7 1, 3) := by decide +kernel
theorem dX8_copy_168 : decode cX8_copy 168 = .ok (.goto (-58), 3) := by decide +kernel
theorem dX8_copy_171 : decode cX8_copy 171 = .ok (.iload 5, 2) := by decide +kernel
theorem dX8_copy_173 : decode cX8_copy 173 = .ok (.ireturn, 1) := by decide +kernel
theorem dX8_cutTo_0 : decode cX8_cutTo 0 = .ok (.iload_n 0, 1) := by decide +kernel
theorem dX8_cutTo_1 : decode cX8_cutTo 1 = .ok (.ifCond .ne 10, 3) := by decide +kernel
theorem dX8_cutTo_4 : decode cX8_cutTo 4 = .ok (.lload_n 1, 1) := by decide +kernel
theorem dX8_cutTo_5 : decode cX8_cutTo 5 = .ok (.l2i, 1) := by decide +kernel
theorem dX8_cutTo_6 : decode cX8_cutTo 6 = .ok (.i2b, 1) := by decide +kernel
theorem dX8_cutTo_7 : decode cX8_cutTo 7 = .ok (.i2l, 1) := by decide +kernel
theorem dX8_cutTo_8 : decode cX8_cutTo 8 = .ok (.goto 27, 3) := by decide +kernel
theorem dX8_cutTo_11 : decode cX8_cutTo 11 = .ok (.iload_n 0, 1) := by decide +kernel
theorem dX8_cutTo_12 : decode cX8_cutTo 12 = .ok (.iconst 1, 1) := by decide +kernel
theorem dX8_cutTo_13 : decode cX8_cutTo 13 = .ok (.if_icmp .ne 10, 3) := by decide +kernel
theorem dX8_cutTo_16 : decode cX8_cutTo 16 = .ok (.lload_n 1, 1) := by decide +kernel
theorem dX8_cutTo_17 : decode cX8_cutTo 17 = .ok (.l2i, 1) := by decide +kernel
theorem dX8_cutTo_18 : decode cX8_cutTo 18 = .ok (.i2s, 1) := by decide +kernel
theorem dX8_cutTo_19 : decode cX8_cutTo 19 = .ok (.i2l, 1) := by decide +kernel
theorem dX8_cutTo_20 : decode cX8_cutTo 20 = .ok (.goto 15, 3) := by decide +kernel
theorem dX8_cutTo_23 : decode cX8_cutTo 23 = .ok (.iload_n 0, 1) := by decide +kernel
theorem dX8_cutTo_24 : decode cX8_cutTo 24 = .ok (.iconst 2, 1) := by decide +kernel
theorem dX8_cutTo_25 : decode cX8_cutTo 25 = .ok (.if_icmp .ne 9, 3) := by decide +kernel
theorem dX8_cutTo_28 : decode cX8_cutTo 28 = .ok (.lload_n 1, 1) := by decide +kernel
theorem dX8_cutTo_29 : decode cX8_cutTo 29 = .ok (.l2i, 1) := by decide +kernel
theorem dX8_cutTo_30 : decode cX8_cutTo 30 = .ok (.i2l, 1) := by decide +kernel
theorem dX8_cutTo_31 : decode cX8_cutTo 31 = .ok (.goto 4, 3) := by decide +kernel
theorem dX8_cutTo_34 : decode cX8_cutTo 34 = .ok (.lload_n 1, 1) := by decide +kernel
theorem dX8_cutTo_35 : decode cX8_cutTo 35 = .ok (.lreturn, 1) := by decide +kernel
set_option maxRecDepth 20000 in
theorem ggX8_log_X8_isSheet : GoodIn wsX8_log wsX8_isSheet := goodIn_r _ [6, 7, 8, 5, 9] (by decide +kernel) (by decide +kernel)
set_option maxRecDepth 20000 in
theorem gX8_log_X8_isSheet : GoodIn wsX8_log (va_wsS RX8 238 yX8_isSheet wsX8_isSheet) := goodIn_app (goodIn_of _ (by decide +kernel)) ggX8_log_X8_isSheet
set_option maxRecDepth 20000 in
theorem ggX8_log_X8_in : GoodIn wsX8_log wsX8_in := goodIn_r _ [9] (by decide +kernel) (by decide +kernel)
set_option maxRecDepth 20000 in
theorem gX8_log_X8_in : GoodIn wsX8_log (va_wsS RX8 60 yX8_in wsX8_in) := goodIn_app (goodIn_of _ (by decide +kernel)) ggX8_log_X8_in
set_option maxRecDepth 20000 in
theorem ggX8_log_X8_wrong : GoodIn wsX8_log wsX8_wrong := goodIn_r _ [13, 14, 15, 16, 17, 5, 18, 55, 56, 57, 58, 59, 60, 61, 62, 63, 64, 65, 66, 67, 68, 69, 70, 71, 72, 73, 74, 75, 76] (by decide +kernel) (by decide +kernel)
set_option maxRecDepth 20000 in
theorem gX8_log_X8_wrong : GoodIn wsX8_log (wsV RX8 243 RX8 yX8_wrong wsX8_wrong) := goodIn_app (goodIn_of _ (by decide +kernel)) ggX8_log_X8_wrong
set_option maxRecDepth 20000 in
theorem ggX8_log_X8_casesLeft : GoodIn wsX8_log wsX8_casesLeft := goodIn_r _ [22, 23, 55, 56, 57, 58, 59, 60, 61, 62, 63, 64, 65, 66, 67, 68, 69, 70, 71, 72, 73, 74, 75, 76] (by decide +kernel) (by decide +kernel)
set_option maxRecDepth 20000 in
theorem gX8_log_X8_casesLeft : GoodIn wsX8_log (wsV RX8 137 RX8 yX8_casesLeft wsX8_casesLeft) := goodIn_app (goodIn_of _ (by decide +kernel)) ggX8_log_X8_casesLeft
set_option maxRecDepth 20000 in
theorem ggX8_log_X8_begin : GoodIn wsX8_log wsX8_begin := goodIn_r _ [27, 23, 2, 28, 29, 5, 30, 55, 56, 57, 58, 59, 60, 61, 62, 63, 64, 65, 66, 67, 68, 69, 70, 71, 72, 73, 74, 75, 76] (by decide +kernel) (by decide +kernel)
set_option maxRecDepth 20000 in
theorem gX8_log_X8_begin : GoodIn wsX8_log (wsV RX8 157 RX8 yX8_begin wsX8_begin) := goodIn_app (goodIn_of _ (by decide +kernel)) ggX8_log_X8_begin
set_option maxRecDepth 20000 in
theorem ggX8_log_X8_hears : GoodIn wsX8_log wsX8_hears := goodIn_r _ [33, 34, 35, 5, 36, 37, 38, 39, 40, 41, 42, 43, 44, 45, 46, 47, 48, 49, 50, 51] (by decide +kernel) (by decide +kernel)
set_option maxRecDepth 20000 in
theorem gX8_log_X8_hears : GoodIn wsX8_log (va_wsS RX8 143 yX8_hears wsX8_hears) := goodIn_app (goodIn_of _ (by decide +kernel)) ggX8_log_X8_hears
set_option maxRecDepth 20000 in
theorem ggX8_log_X8_cutTo : GoodIn wsX8_log wsX8_cutTo := goodIn_r _ [54] (by decide +kernel) (by decide +kernel)
set_option maxRecDepth 20000 in
theorem gX8_log_X8_cutTo : GoodIn wsX8_log (va_wsS RX8 247 yX8_cutTo wsX8_cutTo) := goodIn_app (goodIn_of _ (by decide +kernel)) ggX8_log_X8_cutTo
theorem dX8_log_0 : decode cX8_log 0 = .ok (.iload_n 1, 1) := by decide +kernel
theorem dX8_log_1 : decode cX8_log 1 = .ok (.invokestatic 238, 3) := by decide +kernel
theorem dX8_log_4 : decode cX8_log 4 = .ok (.ifCond .eq 23, 3) := by decide +kernel
theorem dX8_log_7 : decode cX8_log 7 = .ok (.iload_n 2, 1) := by decide +kernel
theorem dX8_log_8 : decode cX8_log 8 = .ok (.iconst 0, 1) := by decide +kernel
theorem dX8_log_9 : decode cX8_log 9 = .ok (.iconst 3, 1) := by decide +kernel
theorem dX8_log_10 : decode cX8_log 10 = .ok (.invokestatic 60, 3) := by decide +kernel
theorem dX8_log_13 : decode cX8_log 13 = .ok (.ifCond .eq 14, 3) := by decide +kernel
theorem dX8_log_16 : decode cX8_log 16 = .ok (.iload 4, 2) := by decide +kernel
theorem dX8_log_18 : decode cX8_log 18 = .ok (.iconst 1, 1) := by decide +kernel
theorem dX8_log_19 : decode cX8_log 19 = .ok (.bipush 12, 2) := by decide +kernel
theorem dX8_log_21 : decode cX8_log 21 = .ok (.invokestatic 60, 3) := by decide +kernel
theorem dX8_log_24 : decode cX8_log 24 = .ok (.ifCond .ne 5, 3) := by decide +kernel
theorem dX8_log_27 : decode cX8_log 27 = .ok (.iconst (-1), 1) := by decide +kernel
theorem dX8_log_28 : decode cX8_log 28 = .ok (.ireturn, 1) := by decide +kernel
theorem dX8_log_29 : decode cX8_log 29 = .ok (.aload_n 0, 1) := by decide +kernel
theorem dX8_log_30 : decode cX8_log 30 = .ok (.iload_n 1, 1) := by decide +kernel
theorem dX8_log_31 : decode cX8_log 31 = .ok (.iload_n 2, 1) := by decide +kernel
theorem dX8_log_32 : decode cX8_log 32 = .ok (.iload_n 3, 1) := by decide +kernel
theorem dX8_log_33 : decode cX8_log 33 = .ok (.iload 4, 2) := by decide +kernel
theorem dX8_log_35 : decode cX8_log 35 = .ok (.invokevirtual 243, 3) := by decide +kernel
theorem dX8_log_38 : decode cX8_log 38 = .ok (.istore 5, 2) := by decide +kernel
theorem dX8_log_40 : decode cX8_log 40 = .ok (.iload 5, 2) := by decide +kernel
theorem dX8_log_42 : decode cX8_log 42 = .ok (.ifCond .eq 6, 3) := by decide +kernel
theorem dX8_log_45 : decode cX8_log 45 = .ok (.iload 5, 2) := by decide +kernel
theorem dX8_log_47 : decode cX8_log 47 = .ok (.ireturn, 1) := by decide +kernel
theorem dX8_log_48 : decode cX8_log 48 = .ok (.iload 4, 2) := by decide +kernel
theorem dX8_log_50 : decode cX8_log 50 = .ok (.aload_n 0, 1) := by decide +kernel
theorem dX8_log_51 : decode cX8_log 51 = .ok (.invokevirtual 137, 3) := by decide +kernel
theorem dX8_log_54 : decode cX8_log 54 = .ok (.if_icmp .le 6, 3) := by decide +kernel
theorem dX8_log_57 : decode cX8_log 57 = .ok (.bipush (-2), 2) := by decide +kernel
theorem dX8_log_59 : decode cX8_log 59 = .ok (.ireturn, 1) := by decide +kernel
theorem dX8_log_60 : decode cX8_log 60 = .ok (.aload_n 0, 1) := by decide +kernel
theorem dX8_log_61 : decode cX8_log 61 = .ok (.invokevirtual 157, 3) := by decide +kernel
theorem dX8_log_64 : decode cX8_log 64 = .ok (.iconst 0, 1) := by decide +kernel
theorem dX8_log_65 : decode cX8_log 65 = .ok (.istore 6, 2) := by decide +kernel
theorem dX8_log_67 : decode cX8_log 67 = .ok (.iload 6, 2) := by decide +kernel
theorem dX8_log_69 : decode cX8_log 69 = .ok (.iload 4, 2) := by decide +kernel
theorem dX8_log_71 : decode cX8_log 71 = .ok (.if_icmp .ge 37, 3) := by decide +kernel
theorem dX8_log_74 : decode cX8_log 74 = .ok (.aload_n 0, 1) := by decide +kernel
theorem dX8_log_75 : decode cX8_log 75 = .ok (.getfield 16, 3) := by decide +kernel
theorem dX8_log_78 : decode cX8_log 78 = .ok (.bipush 24, 2) := by decide +kernel
theorem dX8_log_80 : decode cX8_log 80 = .ok (.iload_n 1, 1) := by decide +kernel
theorem dX8_log_81 : decode cX8_log 81 = .ok (.imul, 1) := by decide +kernel
theorem dX8_log_82 : decode cX8_log 82 = .ok (.iload_n 3, 1) := by decide +kernel
theorem dX8_log_83 : decode cX8_log 83 = .ok (.iadd, 1) := by decide +kernel
theorem dX8_log_84 : decode cX8_log 84 = .ok (.iload 6, 2) := by decide +kernel
theorem dX8_log_86 : decode cX8_log 86 = .ok (.iadd, 1) := by decide +kernel
theorem dX8_log_87 : decode cX8_log 87 = .ok (.iload_n 2, 1) := by decide +kernel
theorem dX8_log_88 : decode cX8_log 88 = .ok (.aload_n 0, 1) := by decide +kernel
theorem dX8_log_89 : decode cX8_log 89 = .ok (.getfield 29, 3) := by decide +kernel
theorem dX8_log_92 : decode cX8_log 92 = .ok (.bipush (-4), 2) := by decide +kernel
theorem dX8_log_94 : decode cX8_log 94 = .ok (.invokestatic 143, 3) := by decide +kernel
theorem dX8_log_97 : decode cX8_log 97 = .ok (.i2l, 1) := by decide +kernel
theorem dX8_log_98 : decode cX8_log 98 = .ok (.invokestatic 247, 3) := by decide +kernel
theorem dX8_log_101 : decode cX8_log 101 = .ok (.lastore, 1) := by decide +kernel
theorem dX8_log_102 : decode cX8_log 102 = .ok (.iinc 6 1, 3) := by decide +kernel
theorem dX8_log_105 : decode cX8_log 105 = .ok (.goto (-38), 3) := by decide +kernel
theorem dX8_log_108 : decode cX8_log 108 = .ok (.iload 4, 2) := by decide +kernel
theorem dX8_log_110 : decode cX8_log 110 = .ok (.ireturn, 1) := by decide +kernel
theorem dX8_areBelow_0 : decode cX8_areBelow 0 = .ok (.iconst 1, 1) := by decide +kernel
theorem dX8_areBelow_1 : decode cX8_areBelow 1 = .ok (.istore 5, 2) := by decide +kernel
theorem dX8_areBelow_3 : decode cX8_areBelow 3 = .ok (.iconst 0, 1) := by decide +kernel
theorem dX8_areBelow_4 : decode cX8_areBelow 4 = .ok (.istore 6, 2) := by decide +kernel
theorem dX8_areBelow_6 : decode cX8_areBelow 6 = .ok (.iload 6, 2) := by decide +kernel
theorem dX8_areBelow_8 : decode cX8_areBelow 8 = .ok (.iload_n 2, 1) := by decide +kernel
theorem dX8_areBelow_9 : decode cX8_areBelow 9 = .ok (.if_icmp .ge 80, 3) := by decide +kernel
theorem dX8_areBelow_12 : decode cX8_areBelow 12 = .ok (.aload_n 0, 1) := by decide +kernel
theorem dX8_areBelow_13 : decode cX8_areBelow 13 = .ok (.getfield 16, 3) := by decide +kernel
theorem dX8_areBelow_16 : decode cX8_areBelow 16 = .ok (.iload_n 1, 1) := by decide +kernel
theorem dX8_areBelow_17 : decode cX8_areBelow 17 = .ok (.iconst 2, 1) := by decide +kernel
theorem dX8_areBelow_18 : decode cX8_areBelow 18 = .ok (.iload 6, 2) := by decide +kernel
theorem dX8_areBelow_20 : decode cX8_areBelow 20 = .ok (.imul, 1) := by decide +kernel
theorem dX8_areBelow_21 : decode cX8_areBelow 21 = .ok (.iadd, 1) := by decide +kernel
theorem dX8_areBelow_22 : decode cX8_areBelow 22 = .ok (.laload, 1) := by decide +kernel
theorem dX8_areBelow_23 : decode cX8_areBelow 23 = .ok (.lstore 7, 2) := by decide +kernel
theorem dX8_areBelow_25 : decode cX8_areBelow 25 = .ok (.aload_n 0, 1) := by decide +kernel
theorem dX8_areBelow_26 : decode cX8_areBelow 26 = .ok (.getfield 16, 3) := by decide +kernel
theorem dX8_areBelow_29 : decode cX8_areBelow 29 = .ok (.iload_n 1, 1) := by decide +kernel
theorem dX8_areBelow_30 : decode cX8_areBelow 30 = .ok (.iconst 2, 1) := by decide +kernel
theorem dX8_areBelow_31 : decode cX8_areBelow 31 = .ok (.iload 6, 2) := by decide +kernel
theorem dX8_areBelow_33 : decode cX8_areBelow 33 = .ok (.imul, 1) := by decide +kernel
theorem dX8_areBelow_34 : decode cX8_areBelow 34 = .ok (.iadd, 1) := by decide +kernel
theorem dX8_areBelow_35 : decode cX8_areBelow 35 = .ok (.iconst 1, 1) := by decide +kernel
theorem dX8_areBelow_36 : decode cX8_areBelow 36 = .ok (.iadd, 1) := by decide +kernel
theorem dX8_areBelow_37 : decode cX8_areBelow 37 = .ok (.laload, 1) := by decide +kernel
theorem dX8_areBelow_38 : decode cX8_areBelow 38 = .ok (.lstore 9, 2) := by decide +kernel
theorem dX8_areBelow_40 : decode cX8_areBelow 40 = .ok (.iload 5, 2) := by decide +kernel
theorem dX8_areBelow_42 : decode cX8_areBelow 42 = .ok (.ifCond .eq 38, 3) := by decide +kernel
theorem dX8_areBelow_45 : decode cX8_areBelow 45 = .ok (.lload 7, 2) := by decide +kernel
theorem dX8_areBelow_47 : decode cX8_areBelow 47 = .ok (.lconst 0, 1) := by decide +kernel
theorem dX8_areBelow_48 : decode cX8_areBelow 48 = .ok (.lcmp, 1) := by decide +kernel
theorem dX8_areBelow_49 : decode cX8_areBelow 49 = .ok (.ifCond .lt 31, 3) := by decide +kernel
theorem dX8_areBelow_52 : decode cX8_areBelow 52 = .ok (.lload 7, 2) := by decide +kernel
theorem dX8_areBelow_54 : decode cX8_areBelow 54 = .ok (.iload_n 3, 1) := by decide +kernel
theorem dX8_areBelow_55 : decode cX8_areBelow 55 = .ok (.i2l, 1) := by decide +kernel
theorem dX8_areBelow_56 : decode cX8_areBelow 56 = .ok (.lcmp, 1) := by decide +kernel
theorem dX8_areBelow_57 : decode cX8_areBelow 57 = .ok (.ifCond .ge 23, 3) := by decide +kernel
theorem dX8_areBelow_60 : decode cX8_areBelow 60 = .ok (.lload 9, 2) := by decide +kernel
theorem dX8_areBelow_62 : decode cX8_areBelow 62 = .ok (.lconst 0, 1) := by decide +kernel
theorem dX8_areBelow_63 : decode cX8_areBelow 63 = .ok (.lcmp, 1) := by decide +kernel
theorem dX8_areBelow_64 : decode cX8_areBelow 64 = .ok (.ifCond .lt 16, 3) := by decide +kernel
theorem dX8_areBelow_67 : decode cX8_areBelow 67 = .ok (.lload 9, 2) := by decide +kernel
theorem dX8_areBelow_69 : decode cX8_areBelow 69 = .ok (.iload 4, 2) := by decide +kernel
theorem dX8_areBelow_71 : decode cX8_areBelow 71 = .ok (.i2l, 1) := by decide +kernel
theorem dX8_areBelow_72 : decode cX8_areBelow 72 = .ok (.lcmp, 1) := by decide +kernel
theorem dX8_areBelow_73 : decode cX8_areBelow 73 = .ok (.ifCond .ge 7, 3) := by decide +kernel
theorem dX8_areBelow_76 : decode cX8_areBelow 76 = .ok (.iconst 1, 1) := by decide +kernel
theorem dX8_areBelow_77 : decode cX8_areBelow 77 = .ok (.goto 4, 3) := by decide +kernel
theorem dX8_areBelow_80 : decode cX8_areBelow 80 = .ok (.iconst 0, 1) := by decide +kernel
theorem dX8_areBelow_81 : decode cX8_areBelow 81 = .ok (.istore 5, 2) := by decide +kernel
theorem dX8_areBelow_83 : decode cX8_areBelow 83 = .ok (.iinc 6 1, 3) := by decide +kernel
theorem dX8_areBelow_86 : decode cX8_areBelow 86 = .ok (.goto (-80), 3) := by decide +kernel
theorem dX8_areBelow_89 : decode cX8_areBelow 89 = .ok (.iload 5, 2) := by decide +kernel
theorem dX8_areBelow_91 : decode cX8_areBelow 91 = .ok (.ireturn, 1) := by decide +kernel
set_option maxRecDepth 20000 in
theorem ggX8_isForBy_X8_foundBy : GoodIn wsX8_isForBy wsX8_foundBy := goodIn_r _ [5] (by decide +kernel) (by decide +kernel)
set_option maxRecDepth 20000 in
theorem gX8_isForBy_X8_foundBy : GoodIn wsX8_isForBy (va_wsS RX8 122 yX8_foundBy wsX8_foundBy) := goodIn_app (goodIn_of _ (by decide +kernel)) ggX8_isForBy_X8_foundBy
theorem dX8_isForBy_0 : decode cX8_isForBy 0 = .ok (.aload_n 0, 1) := by decide +kernel
theorem dX8_isForBy_1 : decode cX8_isForBy 1 = .ok (.getfield 23, 3) := by decide +kernel
theorem dX8_isForBy_4 : decode cX8_isForBy 4 = .ok (.iload_n 1, 1) := by decide +kernel
theorem dX8_isForBy_5 : decode cX8_isForBy 5 = .ok (.iload_n 2, 1) := by decide +kernel
theorem dX8_isForBy_6 : decode cX8_isForBy 6 = .ok (.iload_n 3, 1) := by decide +kernel
theorem dX8_isForBy_7 : decode cX8_isForBy 7 = .ok (.invokestatic 122, 3) := by decide +kernel
theorem dX8_isForBy_10 : decode cX8_isForBy 10 = .ok (.aload_n 0, 1) := by decide +kernel
theorem dX8_isForBy_11 : decode cX8_isForBy 11 = .ok (.getfield 23, 3) := by decide +kernel
theorem dX8_isForBy_14 : decode cX8_isForBy 14 = .ok (.bipush 35, 2) := by decide +kernel
theorem dX8_isForBy_16 : decode cX8_isForBy 16 = .ok (.iload_n 3, 1) := by decide +kernel
theorem dX8_isForBy_17 : decode cX8_isForBy 17 = .ok (.iadd, 1) := by decide +kernel
theorem dX8_isForBy_18 : decode cX8_isForBy 18 = .ok (.iaload, 1) := by decide +kernel
theorem dX8_isForBy_19 : decode cX8_isForBy 19 = .ok (.if_icmp .ne 7, 3) := by decide +kernel
theorem dX8_isForBy_22 : decode cX8_isForBy 22 = .ok (.iconst 1, 1) := by decide +kernel
theorem dX8_isForBy_23 : decode cX8_isForBy 23 = .ok (.goto 4, 3) := by decide +kernel
theorem dX8_isForBy_26 : decode cX8_isForBy 26 = .ok (.iconst 0, 1) := by decide +kernel
theorem dX8_isForBy_27 : decode cX8_isForBy 27 = .ok (.ireturn, 1) := by decide +kernel
set_option maxRecDepth 20000 in
theorem ggX8_leansBy_X8_isForBy : GoodIn wsX8_leansBy wsX8_isForBy := goodIn_r _ [6, 7, 8, 9, 5, 10, 11, 12, 13, 14, 15, 16, 17, 18, 19, 20, 21, 22, 23, 24, 25, 26, 27, 28, 29, 30, 31, 32] (by decide +kernel) (by decide +kernel)
set_option maxRecDepth 20000 in
theorem gX8_leansBy_X8_isForBy : GoodIn wsX8_leansBy (wsV RX8 251 RX8 yX8_isForBy wsX8_isForBy) := goodIn_app (goodIn_of _ (by decide +kernel)) ggX8_leansBy_X8_isForBy
theorem dX8_leansBy_0 : decode cX8_leansBy 0 = .ok (.iconst 0, 1) := by decide +kernel
theorem dX8_leansBy_1 : decode cX8_leansBy 1 = .ok (.istore 4, 2) := by decide +kernel
theorem dX8_leansBy_3 : decode cX8_leansBy 3 = .ok (.iconst 0, 1) := by decide +kernel
theorem dX8_leansBy_4 : decode cX8_leansBy 4 = .ok (.istore 5, 2) := by decide +kernel
theorem dX8_leansBy_6 : decode cX8_leansBy 6 = .ok (.iload 5, 2) := by decide +kernel
theorem dX8_leansBy_8 : decode cX8_leansBy 8 = .ok (.bipush 9, 2) := by decide +kernel
theorem dX8_leansBy_10 : decode cX8_leansBy 10 = .ok (.if_icmp .gt 102, 3) := by decide +kernel
theorem dX8_leansBy_13 : decode cX8_leansBy 13 = .ok (.iconst 1, 1) := by decide +kernel
theorem dX8_leansBy_14 : decode cX8_leansBy 14 = .ok (.istore 6, 2) := by decide +kernel
theorem dX8_leansBy_16 : decode cX8_leansBy 16 = .ok (.iconst 0, 1) := by decide +kernel
theorem dX8_leansBy_17 : decode cX8_leansBy 17 = .ok (.istore 7, 2) := by decide +kernel
theorem dX8_leansBy_19 : decode cX8_leansBy 19 = .ok (.iload 7, 2) := by decide +kernel
theorem dX8_leansBy_21 : decode cX8_leansBy 21 = .ok (.iload_n 3, 1) := by decide +kernel
theorem dX8_leansBy_22 : decode cX8_leansBy 22 = .ok (.if_icmp .ge 66, 3) := by decide +kernel
theorem dX8_leansBy_25 : decode cX8_leansBy 25 = .ok (.iload 6, 2) := by decide +kernel
theorem dX8_leansBy_27 : decode cX8_leansBy 27 = .ok (.ifCond .eq 52, 3) := by decide +kernel
theorem dX8_leansBy_30 : decode cX8_leansBy 30 = .ok (.aload_n 0, 1) := by decide +kernel
theorem dX8_leansBy_31 : decode cX8_leansBy 31 = .ok (.iload_n 1, 1) := by decide +kernel
theorem dX8_leansBy_32 : decode cX8_leansBy 32 = .ok (.iload 5, 2) := by decide +kernel
theorem dX8_leansBy_34 : decode cX8_leansBy 34 = .ok (.aload_n 0, 1) := by decide +kernel
theorem dX8_leansBy_35 : decode cX8_leansBy 35 = .ok (.getfield 16, 3) := by decide +kernel
theorem dX8_leansBy_38 : decode cX8_leansBy 38 = .ok (.iload_n 2, 1) := by decide +kernel
theorem dX8_leansBy_39 : decode cX8_leansBy 39 = .ok (.iconst 2, 1) := by decide +kernel
theorem dX8_leansBy_40 : decode cX8_leansBy 40 = .ok (.iload 7, 2) := by decide +kernel
theorem dX8_leansBy_42 : decode cX8_leansBy 42 = .ok (.imul, 1) := by decide +kernel
theorem dX8_leansBy_43 : decode cX8_leansBy 43 = .ok (.iadd, 1) := by decide +kernel
theorem dX8_leansBy_44 : decode cX8_leansBy 44 = .ok (.laload, 1) := by decide +kernel
theorem dX8_leansBy_45 : decode cX8_leansBy 45 = .ok (.l2i, 1) := by decide +kernel
theorem dX8_leansBy_46 : decode cX8_leansBy 46 = .ok (.invokevirtual 251, 3) := by decide +kernel
theorem dX8_leansBy_49 : decode cX8_leansBy 49 = .ok (.aload_n 0, 1) := by decide +kernel
theorem dX8_leansBy_50 : decode cX8_leansBy 50 = .ok (.getfield 16, 3) := by decide +kernel
theorem dX8_leansBy_53 : decode cX8_leansBy 53 = .ok (.iload_n 2, 1) := by decide +kernel
theorem dX8_leansBy_54 : decode cX8_leansBy 54 = .ok (.iconst 2, 1) := by decide +kernel
theorem dX8_leansBy_55 : decode cX8_leansBy 55 = .ok (.iload 7, 2) := by decide +kernel
theorem dX8_leansBy_57 : decode cX8_leansBy 57 = .ok (.imul, 1) := by decide +kernel
theorem dX8_leansBy_58 : decode cX8_leansBy 58 = .ok (.iadd, 1) := by decide +kernel
theorem dX8_leansBy_59 : decode cX8_leansBy 59 = .ok (.iconst 1, 1) := by decide +kernel
theorem dX8_leansBy_60 : decode cX8_leansBy 60 = .ok (.iadd, 1) := by decide +kernel
theorem dX8_leansBy_61 : decode cX8_leansBy 61 = .ok (.laload, 1) := by decide +kernel
theorem dX8_leansBy_62 : decode cX8_leansBy 62 = .ok (.lconst 0, 1) := by decide +kernel
theorem dX8_leansBy_63 : decode cX8_leansBy 63 = .ok (.lcmp, 1) := by decide +kernel
theorem dX8_leansBy_64 : decode cX8_leansBy 64 = .ok (.ifCond .ne 7, 3) := by decide +kernel
theorem dX8_leansBy_67 : decode cX8_leansBy 67 = .ok (.iconst 1, 1) := by decide +kernel
theorem dX8_leansBy_68 : decode cX8_leansBy 68 = .ok (.goto 4, 3) := by decide +kernel
theorem dX8_leansBy_71 : decode cX8_leansBy 71 = .ok (.iconst 0, 1) := by decide +kernel
theorem dX8_leansBy_72 : decode cX8_leansBy 72 = .ok (.if_icmp .ne 7, 3) := by decide +kernel
theorem dX8_leansBy_75 : decode cX8_leansBy 75 = .ok (.iconst 1, 1) := by decide +kernel
theorem dX8_leansBy_76 : decode cX8_leansBy 76 = .ok (.goto 4, 3) := by decide +kernel
theorem dX8_leansBy_79 : decode cX8_leansBy 79 = .ok (.iconst 0, 1) := by decide +kernel
theorem dX8_leansBy_80 : decode cX8_leansBy 80 = .ok (.istore 6, 2) := by decide +kernel
theorem dX8_leansBy_82 : decode cX8_leansBy 82 = .ok (.iinc 7 1, 3) := by decide +kernel
theorem dX8_leansBy_85 : decode cX8_leansBy 85 = .ok (.goto (-66), 3) := by decide +kernel
theorem dX8_leansBy_88 : decode cX8_leansBy 88 = .ok (.iload 4, 2) := by decide +kernel
theorem dX8_leansBy_90 : decode cX8_leansBy 90 = .ok (.iload 6, 2) := by decide +kernel
theorem dX8_leansBy_92 : decode cX8_leansBy 92 = .ok (.ifCond .eq 10, 3) := by decide +kernel
theorem dX8_leansBy_95 : decode cX8_leansBy 95 = .ok (.iconst 1, 1) := by decide +kernel
theorem dX8_leansBy_96 : decode cX8_leansBy 96 = .ok (.iload 5, 2) := by decide +kernel
theorem dX8_leansBy_98 : decode cX8_leansBy 98 = .ok (.ishl, 1) := by decide +kernel
theorem dX8_leansBy_99 : decode cX8_leansBy 99 = .ok (.goto 4, 3) := by decide +kernel
theorem dX8_leansBy_102 : decode cX8_leansBy 102 = .ok (.iconst 0, 1) := by decide +kernel
theorem dX8_leansBy_103 : decode cX8_leansBy 103 = .ok (.ior, 1) := by decide +kernel
theorem dX8_leansBy_104 : decode cX8_leansBy 104 = .ok (.istore 4, 2) := by decide +kernel
theorem dX8_leansBy_106 : decode cX8_leansBy 106 = .ok (.iinc 5 1, 3) := by decide +kernel
theorem dX8_leansBy_109 : decode cX8_leansBy 109 = .ok (.goto (-103), 3) := by decide +kernel
theorem dX8_leansBy_112 : decode cX8_leansBy 112 = .ok (.iload 4, 2) := by decide +kernel
theorem dX8_leansBy_114 : decode cX8_leansBy 114 = .ok (.ireturn, 1) := by decide +kernel
set_option maxRecDepth 20000 in
theorem ggX8_bestCase_X8_has : GoodIn wsX8_bestCase wsX8_has := goodIn_r _ [5] (by decide +kernel) (by decide +kernel)
set_option maxRecDepth 20000 in
theorem gX8_bestCase_X8_has : GoodIn wsX8_bestCase (va_wsS RX8 164 yX8_has wsX8_has) := goodIn_app (goodIn_of _ (by decide +kernel)) ggX8_bestCase_X8_has
set_option maxRecDepth 20000 in
theorem ggX8_bestCase_X8_isForBy : GoodIn wsX8_bestCase wsX8_isForBy := goodIn_r _ [9, 1, 10, 11, 4, 12, 16, 17, 18, 19, 20, 21, 22, 23, 24, 25, 26, 27, 28, 29, 30, 31, 32, 33, 34, 35, 36, 37] (by decide +kernel) (by decide +kernel)
set_option maxRecDepth 20000 in
theorem gX8_bestCase_X8_isForBy : GoodIn wsX8_bestCase (wsV RX8 251 RX8 yX8_isForBy wsX8_isForBy) := goodIn_app (goodIn_of _ (by decide +kernel)) ggX8_bestCase_X8_isForBy
set_option maxRecDepth 20000 in
theorem ggX8_bestCase_X8_bits : GoodIn wsX8_bestCase wsX8_bits := goodIn_r _ [15] (by decide +kernel) (by decide +kernel)
set_option maxRecDepth 20000 in
theorem gX8_bestCase_X8_bits : GoodIn wsX8_bestCase (va_wsS RX8 170 yX8_bits wsX8_bits) := goodIn_app (goodIn_of _ (by decide +kernel)) ggX8_bestCase_X8_bits
theorem dX8_bestCase_0 : decode cX8_bestCase 0 = .ok (.bipush (-4), 2) := by decide +kernel
theorem dX8_bestCase_2 : decode cX8_bestCase 2 = .ok (.istore_n 3, 1) := by decide +kernel
theorem dX8_bestCase_3 : decode cX8_bestCase 3 = .ok (.bipush 99, 2) := by decide +kernel
theorem dX8_bestCase_5 : decode cX8_bestCase 5 = .ok (.istore 4, 2) := by decide +kernel
theorem dX8_bestCase_7 : decode cX8_bestCase 7 = .ok (.iconst 0, 1) := by decide +kernel
theorem dX8_bestCase_8 : decode cX8_bestCase 8 = .ok (.istore 5, 2) := by decide +kernel
theorem dX8_bestCase_10 : decode cX8_bestCase 10 = .ok (.iload 5, 2) := by decide +kernel
theorem dX8_bestCase_12 : decode cX8_bestCase 12 = .ok (.aload_n 0, 1) := by decide +kernel
theorem dX8_bestCase_13 : decode cX8_bestCase 13 = .ok (.getfield 23, 3) := by decide +kernel
theorem dX8_bestCase_16 : decode cX8_bestCase 16 = .ok (.iconst 4, 1) := by decide +kernel
theorem dX8_bestCase_17 : decode cX8_bestCase 17 = .ok (.iaload, 1) := by decide +kernel
theorem dX8_bestCase_18 : decode cX8_bestCase 18 = .ok (.if_icmp .ge 118, 3) := by decide +kernel
theorem dX8_bestCase_21 : decode cX8_bestCase 21 = .ok (.iload_n 2, 1) := by decide +kernel
theorem dX8_bestCase_22 : decode cX8_bestCase 22 = .ok (.ifCond .eq 114, 3) := by decide +kernel
theorem dX8_bestCase_25 : decode cX8_bestCase 25 = .ok (.iconst 0, 1) := by decide +kernel
theorem dX8_bestCase_26 : decode cX8_bestCase 26 = .ok (.istore 6, 2) := by decide +kernel
theorem dX8_bestCase_28 : decode cX8_bestCase 28 = .ok (.iconst 0, 1) := by decide +kernel
theorem dX8_bestCase_29 : decode cX8_bestCase 29 = .ok (.istore 7, 2) := by decide +kernel
theorem dX8_bestCase_31 : decode cX8_bestCase 31 = .ok (.iload 7, 2) := by decide +kernel
theorem dX8_bestCase_33 : decode cX8_bestCase 33 = .ok (.bipush 9, 2) := by decide +kernel
theorem dX8_bestCase_35 : decode cX8_bestCase 35 = .ok (.if_icmp .gt 40, 3) := by decide +kernel
theorem dX8_bestCase_38 : decode cX8_bestCase 38 = .ok (.iload 6, 2) := by decide +kernel
theorem dX8_bestCase_40 : decode cX8_bestCase 40 = .ok (.iload_n 2, 1) := by decide +kernel
theorem dX8_bestCase_41 : decode cX8_bestCase 41 = .ok (.iload 7, 2) := by decide +kernel
theorem dX8_bestCase_43 : decode cX8_bestCase 43 = .ok (.invokestatic 164, 3) := by decide +kernel
theorem dX8_bestCase_46 : decode cX8_bestCase 46 = .ok (.ifCond .eq 19, 3) := by decide +kernel
theorem dX8_bestCase_49 : decode cX8_bestCase 49 = .ok (.aload_n 0, 1) := by decide +kernel
theorem dX8_bestCase_50 : decode cX8_bestCase 50 = .ok (.iload_n 1, 1) := by decide +kernel
theorem dX8_bestCase_51 : decode cX8_bestCase 51 = .ok (.iload 7, 2) := by decide +kernel
theorem dX8_bestCase_53 : decode cX8_bestCase 53 = .ok (.iload 5, 2) := by decide +kernel
theorem dX8_bestCase_55 : decode cX8_bestCase 55 = .ok (.invokevirtual 251, 3) := by decide +kernel
theorem dX8_bestCase_58 : decode cX8_bestCase 58 = .ok (.ifCond .eq 7, 3) := by decide +kernel
theorem dX8_bestCase_61 : decode cX8_bestCase 61 = .ok (.iconst 1, 1) := by decide +kernel
theorem dX8_bestCase_62 : decode cX8_bestCase 62 = .ok (.goto 4, 3) := by decide +kernel
theorem dX8_bestCase_65 : decode cX8_bestCase 65 = .ok (.iconst 0, 1) := by decide +kernel
theorem dX8_bestCase_66 : decode cX8_bestCase 66 = .ok (.iadd, 1) := by decide +kernel
theorem dX8_bestCase_67 : decode cX8_bestCase 67 = .ok (.istore 6, 2) := by decide +kernel
theorem dX8_bestCase_69 : decode cX8_bestCase 69 = .ok (.iinc 7 1, 3) := by decide +kernel
theorem dX8_bestCase_72 : decode cX8_bestCase 72 = .ok (.goto (-41), 3) := by decide +kernel
theorem dX8_bestCase_75 : decode cX8_bestCase 75 = .ok (.iload_n 2, 1) := by decide +kernel
theorem dX8_bestCase_76 : decode cX8_bestCase 76 = .ok (.invokestatic 170, 3) := by decide +kernel
theorem dX8_bestCase_79 : decode cX8_bestCase 79 = .ok (.iload 6, 2) := by decide +kernel
theorem dX8_bestCase_81 : decode cX8_bestCase 81 = .ok (.isub, 1) := by decide +kernel
theorem dX8_bestCase_82 : decode cX8_bestCase 82 = .ok (.istore 7, 2) := by decide +kernel
theorem dX8_bestCase_84 : decode cX8_bestCase 84 = .ok (.iload 6, 2) := by decide +kernel
theorem dX8_bestCase_86 : decode cX8_bestCase 86 = .ok (.iload 7, 2) := by decide +kernel
theorem dX8_bestCase_88 : decode cX8_bestCase 88 = .ok (.if_icmp .le 8, 3) := by decide +kernel
theorem dX8_bestCase_91 : decode cX8_bestCase 91 = .ok (.iload 6, 2) := by decide +kernel
theorem dX8_bestCase_93 : decode cX8_bestCase 93 = .ok (.goto 5, 3) := by decide +kernel
theorem dX8_bestCase_96 : decode cX8_bestCase 96 = .ok (.iload 7, 2) := by decide +kernel
theorem dX8_bestCase_98 : decode cX8_bestCase 98 = .ok (.istore 8, 2) := by decide +kernel
theorem dX8_bestCase_100 : decode cX8_bestCase 100 = .ok (.iload 8, 2) := by decide +kernel
theorem dX8_bestCase_102 : decode cX8_bestCase 102 = .ok (.iload 4, 2) := by decide +kernel
theorem dX8_bestCase_104 : decode cX8_bestCase 104 = .ok (.if_icmp .ge 8, 3) := by decide +kernel
theorem dX8_bestCase_107 : decode cX8_bestCase 107 = .ok (.iload 5, 2) := by decide +kernel
theorem dX8_bestCase_109 : decode cX8_bestCase 109 = .ok (.goto 4, 3) := by decide +kernel
theorem dX8_bestCase_112 : decode cX8_bestCase 112 = .ok (.iload_n 3, 1) := by decide +kernel
theorem dX8_bestCase_113 : decode cX8_bestCase 113 = .ok (.istore_n 3, 1) := by decide +kernel
theorem dX8_bestCase_114 : decode cX8_bestCase 114 = .ok (.iload 8, 2) := by decide +kernel
theorem dX8_bestCase_116 : decode cX8_bestCase 116 = .ok (.iload 4, 2) := by decide +kernel
theorem dX8_bestCase_118 : decode cX8_bestCase 118 = .ok (.if_icmp .ge 8, 3) := by decide +kernel
theorem dX8_bestCase_121 : decode cX8_bestCase 121 = .ok (.iload 8, 2) := by decide +kernel
theorem dX8_bestCase_123 : decode cX8_bestCase 123 = .ok (.goto 5, 3) := by decide +kernel
theorem dX8_bestCase_126 : decode cX8_bestCase 126 = .ok (.iload 4, 2) := by decide +kernel
theorem dX8_bestCase_128 : decode cX8_bestCase 128 = .ok (.istore 4, 2) := by decide +kernel
theorem dX8_bestCase_130 : decode cX8_bestCase 130 = .ok (.iinc 5 1, 3) := by decide +kernel
theorem dX8_bestCase_133 : decode cX8_bestCase 133 = .ok (.goto (-123), 3) := by decide +kernel
theorem dX8_bestCase_136 : decode cX8_bestCase 136 = .ok (.iload_n 3, 1) := by decide +kernel
theorem dX8_bestCase_137 : decode cX8_bestCase 137 = .ok (.ireturn, 1) := by decide +kernel
set_option maxRecDepth 20000 in
theorem ggX8_leans_X8_isJudge : GoodIn wsX8_leans wsX8_isJudge := goodIn_r _ [6, 1, 7, 8, 5, 9, 48, 49, 50, 51, 52, 53, 54, 55, 56, 57, 58, 59, 60, 61, 62, 63, 64, 65, 66, 67, 68, 69] (by decide +kernel) (by decide +kernel)
set_option maxRecDepth 20000 in
theorem gX8_leans_X8_isJudge : GoodIn wsX8_leans (wsV RX8 116 RX8 yX8_isJudge wsX8_isJudge) := goodIn_app (goodIn_of _ (by decide +kernel)) ggX8_leans_X8_isJudge
set_option maxRecDepth 20000 in
theorem ggX8_leans_X8_isSheet : GoodIn wsX8_leans wsX8_isSheet := goodIn_r _ [12, 7, 8, 5, 9] (by decide +kernel) (by decide +kernel)
set_option maxRecDepth 20000 in
theorem gX8_leans_X8_isSheet : GoodIn wsX8_leans (va_wsS RX8 238 yX8_isSheet wsX8_isSheet) := goodIn_app (goodIn_of _ (by decide +kernel)) ggX8_leans_X8_isSheet
set_option maxRecDepth 20000 in
theorem ggX8_leans_X8_in : GoodIn wsX8_leans wsX8_in := goodIn_r _ [9] (by decide +kernel) (by decide +kernel)
set_option maxRecDepth 20000 in
theorem gX8_leans_X8_in : GoodIn wsX8_leans (va_wsS RX8 60 yX8_in wsX8_in) := goodIn_app (goodIn_of _ (by decide +kernel)) ggX8_leans_X8_in
set_option maxRecDepth 20000 in
theorem ggX8_leans_X8_wrong : GoodIn wsX8_leans wsX8_wrong := goodIn_r _ [16, 17, 18, 19, 20, 5, 21, 48, 49, 50, 51, 52, 53, 54, 55, 56, 57, 58, 59, 60, 61, 62, 63, 64, 65, 66, 67, 68, 69] (by decide +kernel) (by decide +kernel)
set_option maxRecDepth 20000 in
theorem gX8_leans_X8_wrong : GoodIn wsX8_leans (wsV RX8 243 RX8 yX8_wrong wsX8_wrong) := goodIn_app (goodIn_of _ (by decide +kernel)) ggX8_leans_X8_wrong
set_option maxRecDepth 20000 in
theorem ggX8_leans_X8_areBelow : GoodIn wsX8_leans wsX8_areBelow := goodIn_r _ [25, 26, 48, 49, 50, 51, 52, 53, 54, 55, 56, 57, 58, 59, 60, 61, 62, 63, 64, 65, 66, 67, 68, 69] (by decide +kernel) (by decide +kernel)
set_option maxRecDepth 20000 in
theorem gX8_leans_X8_areBelow : GoodIn wsX8_leans (wsV RX8 254 RX8 yX8_areBelow wsX8_areBelow) := goodIn_app (goodIn_of _ (by decide +kernel)) ggX8_leans_X8_areBelow
set_option maxRecDepth 20000 in
theorem ggX8_leans_X8_leansBy : GoodIn wsX8_leans wsX8_leansBy := goodIn_r _ [30, 26, 31, 32, 33, 5, 34, 1, 35, 36, 37, 48, 49, 50, 51, 52, 53, 54, 55, 56, 57, 58, 59, 60, 61, 62, 63, 64, 65, 66, 67, 68, 69] (by decide +kernel) (by decide +kernel)
set_option maxRecDepth 20000 in
theorem gX8_leans_X8_leansBy : GoodIn wsX8_leans (wsV RX8 258 RX8 yX8_leansBy wsX8_leansBy) := goodIn_app (goodIn_of _ (by decide +kernel)) ggX8_leans_X8_leansBy
set_option maxRecDepth 20000 in
theorem ggX8_leans_X8_bestCase : GoodIn wsX8_leans wsX8_bestCase := goodIn_r _ [41, 1, 42, 43, 5, 44, 31, 32, 33, 34, 35, 36, 37, 45, 46, 47, 48, 49, 50, 51, 52, 53, 54, 55, 56, 57, 58, 59, 60, 61, 62, 63, 64, 65, 66, 67, 68, 69] (by decide +kernel) (by decide +kernel)
set_option maxRecDepth 20000 in
theorem gX8_leans_X8_bestCase : GoodIn wsX8_leans (wsV RX8 261 RX8 yX8_bestCase wsX8_bestCase) := goodIn_app (goodIn_of _ (by decide +kernel)) ggX8_leans_X8_bestCase
theorem dX8_leans_0 : decode cX8_leans 0 = .ok (.aload_n 0, 1) := by decide +kernel
theorem dX8_leans_1 : decode cX8_leans 1 = .ok (.iload_n 1, 1) := by decide +kernel
theorem dX8_leans_2 : decode cX8_leans 2 = .ok (.invokevirtual 116, 3) := by decide +kernel
theorem dX8_leans_5 : decode cX8_leans 5 = .ok (.ifCond .eq 40, 3) := by decide +kernel
theorem dX8_leans_8 : decode cX8_leans 8 = .ok (.iload_n 2, 1) := by decide +kernel
theorem dX8_leans_9 : decode cX8_leans 9 = .ok (.invokestatic 238, 3) := by decide +kernel
theorem dX8_leans_12 : decode cX8_leans 12 = .ok (.ifCond .eq 33, 3) := by decide +kernel
theorem dX8_leans_15 : decode cX8_leans 15 = .ok (.iload_n 3, 1) := by decide +kernel
theorem dX8_leans_16 : decode cX8_leans 16 = .ok (.iconst 0, 1) := by decide +kernel
theorem dX8_leans_17 : decode cX8_leans 17 = .ok (.iconst 3, 1) := by decide +kernel
theorem dX8_leans_18 : decode cX8_leans 18 = .ok (.invokestatic 60, 3) := by decide +kernel
theorem dX8_leans_21 : decode cX8_leans 21 = .ok (.ifCond .eq 24, 3) := by decide +kernel
theorem dX8_leans_24 : decode cX8_leans 24 = .ok (.iload 5, 2) := by decide +kernel
theorem dX8_leans_26 : decode cX8_leans 26 = .ok (.iconst 1, 1) := by decide +kernel
theorem dX8_leans_27 : decode cX8_leans 27 = .ok (.bipush 10, 2) := by decide +kernel
theorem dX8_leans_29 : decode cX8_leans 29 = .ok (.invokestatic 60, 3) := by decide +kernel
theorem dX8_leans_32 : decode cX8_leans 32 = .ok (.ifCond .eq 13, 3) := by decide +kernel
theorem dX8_leans_35 : decode cX8_leans 35 = .ok (.iload 6, 2) := by decide +kernel
theorem dX8_leans_37 : decode cX8_leans 37 = .ok (.iconst 0, 1) := by decide +kernel
theorem dX8_leans_38 : decode cX8_leans 38 = .ok (.iconst 1, 1) := by decide +kernel
theorem dX8_leans_39 : decode cX8_leans 39 = .ok (.invokestatic 60, 3) := by decide +kernel
theorem dX8_leans_42 : decode cX8_leans 42 = .ok (.ifCond .ne 5, 3) := by decide +kernel
theorem dX8_leans_45 : decode cX8_leans 45 = .ok (.iconst (-1), 1) := by decide +kernel
theorem dX8_leans_46 : decode cX8_leans 46 = .ok (.ireturn, 1) := by decide +kernel
theorem dX8_leans_47 : decode cX8_leans 47 = .ok (.aload_n 0, 1) := by decide +kernel
theorem dX8_leans_48 : decode cX8_leans 48 = .ok (.iload_n 2, 1) := by decide +kernel
theorem dX8_leans_49 : decode cX8_leans 49 = .ok (.iload_n 3, 1) := by decide +kernel
theorem dX8_leans_50 : decode cX8_leans 50 = .ok (.iload 4, 2) := by decide +kernel
theorem dX8_leans_52 : decode cX8_leans 52 = .ok (.iconst 2, 1) := by decide +kernel
theorem dX8_leans_53 : decode cX8_leans 53 = .ok (.iload 5, 2) := by decide +kernel
theorem dX8_leans_55 : decode cX8_leans 55 = .ok (.imul, 1) := by decide +kernel
theorem dX8_leans_56 : decode cX8_leans 56 = .ok (.invokevirtual 243, 3) := by decide +kernel
theorem dX8_leans_59 : decode cX8_leans 59 = .ok (.istore 7, 2) := by decide +kernel
theorem dX8_leans_61 : decode cX8_leans 61 = .ok (.iload 7, 2) := by decide +kernel
theorem dX8_leans_63 : decode cX8_leans 63 = .ok (.ifCond .eq 6, 3) := by decide +kernel
theorem dX8_leans_66 : decode cX8_leans 66 = .ok (.iload 7, 2) := by decide +kernel
theorem dX8_leans_68 : decode cX8_leans 68 = .ok (.ireturn, 1) := by decide +kernel
theorem dX8_leans_69 : decode cX8_leans 69 = .ok (.aload_n 0, 1) := by decide +kernel
theorem dX8_leans_70 : decode cX8_leans 70 = .ok (.bipush 24, 2) := by decide +kernel
theorem dX8_leans_72 : decode cX8_leans 72 = .ok (.iload_n 2, 1) := by decide +kernel
theorem dX8_leans_73 : decode cX8_leans 73 = .ok (.imul, 1) := by decide +kernel
theorem dX8_leans_74 : decode cX8_leans 74 = .ok (.iload 4, 2) := by decide +kernel
theorem dX8_leans_76 : decode cX8_leans 76 = .ok (.iadd, 1) := by decide +kernel
theorem dX8_leans_77 : decode cX8_leans 77 = .ok (.iload 5, 2) := by decide +kernel
theorem dX8_leans_79 : decode cX8_leans 79 = .ok (.aload_n 0, 1) := by decide +kernel
theorem dX8_leans_80 : decode cX8_leans 80 = .ok (.getfield 23, 3) := by decide +kernel
theorem dX8_leans_83 : decode cX8_leans 83 = .ok (.iconst 4, 1) := by decide +kernel
theorem dX8_leans_84 : decode cX8_leans 84 = .ok (.iaload, 1) := by decide +kernel
theorem dX8_leans_85 : decode cX8_leans 85 = .ok (.iconst 2, 1) := by decide +kernel
theorem dX8_leans_86 : decode cX8_leans 86 = .ok (.invokevirtual 254, 3) := by decide +kernel
theorem dX8_leans_89 : decode cX8_leans 89 = .ok (.ifCond .ne 6, 3) := by decide +kernel
theorem dX8_leans_92 : decode cX8_leans 92 = .ok (.bipush (-2), 2) := by decide +kernel
theorem dX8_leans_94 : decode cX8_leans 94 = .ok (.ireturn, 1) := by decide +kernel
theorem dX8_leans_95 : decode cX8_leans 95 = .ok (.aload_n 0, 1) := by decide +kernel
theorem dX8_leans_96 : decode cX8_leans 96 = .ok (.iload_n 1, 1) := by decide +kernel
theorem dX8_leans_97 : decode cX8_leans 97 = .ok (.bipush 24, 2) := by decide +kernel
theorem dX8_leans_99 : decode cX8_leans 99 = .ok (.iload_n 2, 1) := by decide +kernel
theorem dX8_leans_100 : decode cX8_leans 100 = .ok (.imul, 1) := by decide +kernel
theorem dX8_leans_101 : decode cX8_leans 101 = .ok (.iload 4, 2) := by decide +kernel
theorem dX8_leans_103 : decode cX8_leans 103 = .ok (.iadd, 1) := by decide +kernel
theorem dX8_leans_104 : decode cX8_leans 104 = .ok (.iload 5, 2) := by decide +kernel
theorem dX8_leans_106 : decode cX8_leans 106 = .ok (.invokevirtual 258, 3) := by decide +kernel
theorem dX8_leans_109 : decode cX8_leans 109 = .ok (.istore 8, 2) := by decide +kernel
theorem dX8_leans_111 : decode cX8_leans 111 = .ok (.iload 6, 2) := by decide +kernel
theorem dX8_leans_113 : decode cX8_leans 113 = .ok (.ifCond .ne 8, 3) := by decide +kernel
theorem dX8_leans_116 : decode cX8_leans 116 = .ok (.iload 8, 2) := by decide +kernel
theorem dX8_leans_118 : decode cX8_leans 118 = .ok (.goto 10, 3) := by decide +kernel
theorem dX8_leans_121 : decode cX8_leans 121 = .ok (.aload_n 0, 1) := by decide +kernel
theorem dX8_leans_122 : decode cX8_leans 122 = .ok (.iload_n 1, 1) := by decide +kernel
theorem dX8_leans_123 : decode cX8_leans 123 = .ok (.iload 8, 2) := by decide +kernel
theorem dX8_leans_125 : decode cX8_leans 125 = .ok (.invokevirtual 261, 3) := by decide +kernel
theorem dX8_leans_128 : decode cX8_leans 128 = .ok (.ireturn, 1) := by decide +kernel
set_option maxRecDepth 20000 in
theorem ggX8_kindsBy_X8_namedBy : GoodIn wsX8_kindsBy wsX8_namedBy := goodIn_r _ [6, 7, 8, 5, 9] (by decide +kernel) (by decide +kernel)
set_option maxRecDepth 20000 in
theorem gX8_kindsBy_X8_namedBy : GoodIn wsX8_kindsBy (va_wsS RX8 113 yX8_namedBy wsX8_namedBy) := goodIn_app (goodIn_of _ (by decide +kernel)) ggX8_kindsBy_X8_namedBy
theorem dX8_kindsBy_0 : decode cX8_kindsBy 0 = .ok (.iconst 0, 1) := by decide +kernel
theorem dX8_kindsBy_1 : decode cX8_kindsBy 1 = .ok (.istore 4, 2) := by decide +kernel
theorem dX8_kindsBy_3 : decode cX8_kindsBy 3 = .ok (.iconst 1, 1) := by decide +kernel
theorem dX8_kindsBy_4 : decode cX8_kindsBy 4 = .ok (.istore 5, 2) := by decide +kernel
theorem dX8_kindsBy_6 : decode cX8_kindsBy 6 = .ok (.iload 5, 2) := by decide +kernel
theorem dX8_kindsBy_8 : decode cX8_kindsBy 8 = .ok (.iconst 5, 1) := by decide +kernel
theorem dX8_kindsBy_9 : decode cX8_kindsBy 9 = .ok (.if_icmp .gt 97, 3) := by decide +kernel
theorem dX8_kindsBy_12 : decode cX8_kindsBy 12 = .ok (.iconst 1, 1) := by decide +kernel
theorem dX8_kindsBy_13 : decode cX8_kindsBy 13 = .ok (.istore 6, 2) := by decide +kernel
theorem dX8_kindsBy_15 : decode cX8_kindsBy 15 = .ok (.iconst 0, 1) := by decide +kernel
theorem dX8_kindsBy_16 : decode cX8_kindsBy 16 = .ok (.istore 7, 2) := by decide +kernel
theorem dX8_kindsBy_18 : decode cX8_kindsBy 18 = .ok (.iload 7, 2) := by decide +kernel
theorem dX8_kindsBy_20 : decode cX8_kindsBy 20 = .ok (.iload_n 3, 1) := by decide +kernel
theorem dX8_kindsBy_21 : decode cX8_kindsBy 21 = .ok (.if_icmp .ge 61, 3) := by decide +kernel
theorem dX8_kindsBy_24 : decode cX8_kindsBy 24 = .ok (.iload 6, 2) := by decide +kernel
theorem dX8_kindsBy_26 : decode cX8_kindsBy 26 = .ok (.ifCond .eq 47, 3) := by decide +kernel
theorem dX8_kindsBy_29 : decode cX8_kindsBy 29 = .ok (.aload_n 0, 1) := by decide +kernel
theorem dX8_kindsBy_30 : decode cX8_kindsBy 30 = .ok (.getfield 23, 3) := by decide +kernel
theorem dX8_kindsBy_33 : decode cX8_kindsBy 33 = .ok (.iload_n 1, 1) := by decide +kernel
theorem dX8_kindsBy_34 : decode cX8_kindsBy 34 = .ok (.iload 5, 2) := by decide +kernel
theorem dX8_kindsBy_36 : decode cX8_kindsBy 36 = .ok (.aload_n 0, 1) := by decide +kernel
theorem dX8_kindsBy_37 : decode cX8_kindsBy 37 = .ok (.getfield 16, 3) := by decide +kernel
theorem dX8_kindsBy_40 : decode cX8_kindsBy 40 = .ok (.iload_n 2, 1) := by decide +kernel
theorem dX8_kindsBy_41 : decode cX8_kindsBy 41 = .ok (.iconst 2, 1) := by decide +kernel
theorem dX8_kindsBy_42 : decode cX8_kindsBy 42 = .ok (.iload 7, 2) := by decide +kernel
theorem dX8_kindsBy_44 : decode cX8_kindsBy 44 = .ok (.imul, 1) := by decide +kernel
theorem dX8_kindsBy_45 : decode cX8_kindsBy 45 = .ok (.iadd, 1) := by decide +kernel
theorem dX8_kindsBy_46 : decode cX8_kindsBy 46 = .ok (.laload, 1) := by decide +kernel
theorem dX8_kindsBy_47 : decode cX8_kindsBy 47 = .ok (.l2i, 1) := by decide +kernel
theorem dX8_kindsBy_48 : decode cX8_kindsBy 48 = .ok (.invokestatic 113, 3) := by decide +kernel
theorem dX8_kindsBy_51 : decode cX8_kindsBy 51 = .ok (.i2l, 1) := by decide +kernel
theorem dX8_kindsBy_52 : decode cX8_kindsBy 52 = .ok (.aload_n 0, 1) := by decide +kernel
theorem dX8_kindsBy_53 : decode cX8_kindsBy 53 = .ok (.getfield 16, 3) := by decide +kernel
theorem dX8_kindsBy_56 : decode cX8_kindsBy 56 = .ok (.iload_n 2, 1) := by decide +kernel
theorem dX8_kindsBy_57 : decode cX8_kindsBy 57 = .ok (.iconst 2, 1) := by decide +kernel
theorem dX8_kindsBy_58 : decode cX8_kindsBy 58 = .ok (.iload 7, 2) := by decide +kernel
theorem dX8_kindsBy_60 : decode cX8_kindsBy 60 = .ok (.imul, 1) := by decide +kernel
theorem dX8_kindsBy_61 : decode cX8_kindsBy 61 = .ok (.iadd, 1) := by decide +kernel
theorem dX8_kindsBy_62 : decode cX8_kindsBy 62 = .ok (.iconst 1, 1) := by decide +kernel
theorem dX8_kindsBy_63 : decode cX8_kindsBy 63 = .ok (.iadd, 1) := by decide +kernel
theorem dX8_kindsBy_64 : decode cX8_kindsBy 64 = .ok (.laload, 1) := by decide +kernel
theorem dX8_kindsBy_65 : decode cX8_kindsBy 65 = .ok (.lcmp, 1) := by decide +kernel
theorem dX8_kindsBy_66 : decode cX8_kindsBy 66 = .ok (.ifCond .ne 7, 3) := by decide +kernel
theorem dX8_kindsBy_69 : decode cX8_kindsBy 69 = .ok (.iconst 1, 1) := by decide +kernel
theorem dX8_kindsBy_70 : decode cX8_kindsBy 70 = .ok (.goto 4, 3) := by decide +kernel
theorem dX8_kindsBy_73 : decode cX8_kindsBy 73 = .ok (.iconst 0, 1) := by decide +kernel
theorem dX8_kindsBy_74 : decode cX8_kindsBy 74 = .ok (.istore 6, 2) := by decide +kernel
theorem dX8_kindsBy_76 : decode cX8_kindsBy 76 = .ok (.iinc 7 1, 3) := by decide +kernel
theorem dX8_kindsBy_79 : decode cX8_kindsBy 79 = .ok (.goto (-61), 3) := by decide +kernel
theorem dX8_kindsBy_82 : decode cX8_kindsBy 82 = .ok (.iload 4, 2) := by decide +kernel
theorem dX8_kindsBy_84 : decode cX8_kindsBy 84 = .ok (.iload 6, 2) := by decide +kernel
theorem dX8_kindsBy_86 : decode cX8_kindsBy 86 = .ok (.ifCond .eq 10, 3) := by decide +kernel
theorem dX8_kindsBy_89 : decode cX8_kindsBy 89 = .ok (.iconst 1, 1) := by decide +kernel
theorem dX8_kindsBy_90 : decode cX8_kindsBy 90 = .ok (.iload 5, 2) := by decide +kernel
theorem dX8_kindsBy_92 : decode cX8_kindsBy 92 = .ok (.ishl, 1) := by decide +kernel
theorem dX8_kindsBy_93 : decode cX8_kindsBy 93 = .ok (.goto 4, 3) := by decide +kernel
theorem dX8_kindsBy_96 : decode cX8_kindsBy 96 = .ok (.iconst 0, 1) := by decide +kernel
theorem dX8_kindsBy_97 : decode cX8_kindsBy 97 = .ok (.ior, 1) := by decide +kernel
theorem dX8_kindsBy_98 : decode cX8_kindsBy 98 = .ok (.istore 4, 2) := by decide +kernel
theorem dX8_kindsBy_100 : decode cX8_kindsBy 100 = .ok (.iinc 5 1, 3) := by decide +kernel
theorem dX8_kindsBy_103 : decode cX8_kindsBy 103 = .ok (.goto (-97), 3) := by decide +kernel
theorem dX8_kindsBy_106 : decode cX8_kindsBy 106 = .ok (.iload 4, 2) := by decide +kernel
theorem dX8_kindsBy_108 : decode cX8_kindsBy 108 = .ok (.ireturn, 1) := by decide +kernel
set_option maxRecDepth 20000 in
theorem ggX8_bestJudge_X8_has : GoodIn wsX8_bestJudge wsX8_has := goodIn_r _ [5] (by decide +kernel) (by decide +kernel)
set_option maxRecDepth 20000 in
theorem gX8_bestJudge_X8_has : GoodIn wsX8_bestJudge (va_wsS RX8 164 yX8_has wsX8_has) := goodIn_app (goodIn_of _ (by decide +kernel)) ggX8_bestJudge_X8_has
set_option maxRecDepth 20000 in
theorem ggX8_bestJudge_X8_namedBy : GoodIn wsX8_bestJudge wsX8_namedBy := goodIn_r _ [8, 9, 10, 4, 11] (by decide +kernel) (by decide +kernel)
set_option maxRecDepth 20000 in
theorem gX8_bestJudge_X8_namedBy : GoodIn wsX8_bestJudge (va_wsS RX8 113 yX8_namedBy wsX8_namedBy) := goodIn_app (goodIn_of _ (by decide +kernel)) ggX8_bestJudge_X8_namedBy
theorem dX8_bestJudge_0 : decode cX8_bestJudge 0 = .ok (.bipush (-4), 2) := by decide +kernel
theorem dX8_bestJudge_2 : decode cX8_bestJudge 2 = .ok (.istore_n 3, 1) := by decide +kernel
theorem dX8_bestJudge_3 : decode cX8_bestJudge 3 = .ok (.bipush 99, 2) := by decide +kernel
theorem dX8_bestJudge_5 : decode cX8_bestJudge 5 = .ok (.istore 4, 2) := by decide +kernel
theorem dX8_bestJudge_7 : decode cX8_bestJudge 7 = .ok (.iconst 0, 1) := by decide +kernel
theorem dX8_bestJudge_8 : decode cX8_bestJudge 8 = .ok (.istore 5, 2) := by decide +kernel
theorem dX8_bestJudge_10 : decode cX8_bestJudge 10 = .ok (.iload 5, 2) := by decide +kernel
theorem dX8_bestJudge_12 : decode cX8_bestJudge 12 = .ok (.aload_n 0, 1) := by decide +kernel
theorem dX8_bestJudge_13 : decode cX8_bestJudge 13 = .ok (.getfield 23, 3) := by decide +kernel
theorem dX8_bestJudge_16 : decode cX8_bestJudge 16 = .ok (.iconst 3, 1) := by decide +kernel
theorem dX8_bestJudge_17 : decode cX8_bestJudge 17 = .ok (.iaload, 1) := by decide +kernel
theorem dX8_bestJudge_18 : decode cX8_bestJudge 18 = .ok (.if_icmp .ge 136, 3) := by decide +kernel
theorem dX8_bestJudge_21 : decode cX8_bestJudge 21 = .ok (.iload_n 2, 1) := by decide +kernel
theorem dX8_bestJudge_22 : decode cX8_bestJudge 22 = .ok (.ifCond .eq 132, 3) := by decide +kernel
theorem dX8_bestJudge_25 : decode cX8_bestJudge 25 = .ok (.iconst 0, 1) := by decide +kernel
theorem dX8_bestJudge_26 : decode cX8_bestJudge 26 = .ok (.istore 6, 2) := by decide +kernel
theorem dX8_bestJudge_28 : decode cX8_bestJudge 28 = .ok (.iconst 0, 1) := by decide +kernel
theorem dX8_bestJudge_29 : decode cX8_bestJudge 29 = .ok (.istore 7, 2) := by decide +kernel
theorem dX8_bestJudge_31 : decode cX8_bestJudge 31 = .ok (.iload 7, 2) := by decide +kernel
theorem dX8_bestJudge_33 : decode cX8_bestJudge 33 = .ok (.aload_n 0, 1) := by decide +kernel
theorem dX8_bestJudge_34 : decode cX8_bestJudge 34 = .ok (.getfield 23, 3) := by decide +kernel
theorem dX8_bestJudge_37 : decode cX8_bestJudge 37 = .ok (.iconst 3, 1) := by decide +kernel
theorem dX8_bestJudge_38 : decode cX8_bestJudge 38 = .ok (.iaload, 1) := by decide +kernel
theorem dX8_bestJudge_39 : decode cX8_bestJudge 39 = .ok (.if_icmp .ge 79, 3) := by decide +kernel
theorem dX8_bestJudge_42 : decode cX8_bestJudge 42 = .ok (.iconst 0, 1) := by decide +kernel
theorem dX8_bestJudge_43 : decode cX8_bestJudge 43 = .ok (.istore 8, 2) := by decide +kernel
theorem dX8_bestJudge_45 : decode cX8_bestJudge 45 = .ok (.iconst 1, 1) := by decide +kernel
theorem dX8_bestJudge_46 : decode cX8_bestJudge 46 = .ok (.istore 9, 2) := by decide +kernel
theorem dX8_bestJudge_48 : decode cX8_bestJudge 48 = .ok (.iload 9, 2) := by decide +kernel
theorem dX8_bestJudge_50 : decode cX8_bestJudge 50 = .ok (.iconst 5, 1) := by decide +kernel
theorem dX8_bestJudge_51 : decode cX8_bestJudge 51 = .ok (.if_icmp .gt 45, 3) := by decide +kernel
theorem dX8_bestJudge_54 : decode cX8_bestJudge 54 = .ok (.iload 8, 2) := by decide +kernel
theorem dX8_bestJudge_56 : decode cX8_bestJudge 56 = .ok (.iload_n 2, 1) := by decide +kernel
theorem dX8_bestJudge_57 : decode cX8_bestJudge 57 = .ok (.iload 9, 2) := by decide +kernel
theorem dX8_bestJudge_59 : decode cX8_bestJudge 59 = .ok (.invokestatic 164, 3) := by decide +kernel
theorem dX8_bestJudge_62 : decode cX8_bestJudge 62 = .ok (.ifCond .eq 24, 3) := by decide +kernel
theorem dX8_bestJudge_65 : decode cX8_bestJudge 65 = .ok (.aload_n 0, 1) := by decide +kernel
theorem dX8_bestJudge_66 : decode cX8_bestJudge 66 = .ok (.getfield 23, 3) := by decide +kernel
theorem dX8_bestJudge_69 : decode cX8_bestJudge 69 = .ok (.iload_n 1, 1) := by decide +kernel
theorem dX8_bestJudge_70 : decode cX8_bestJudge 70 = .ok (.iload 9, 2) := by decide +kernel
theorem dX8_bestJudge_72 : decode cX8_bestJudge 72 = .ok (.iload 5, 2) := by decide +kernel
theorem dX8_bestJudge_74 : decode cX8_bestJudge 74 = .ok (.invokestatic 113, 3) := by decide +kernel
theorem dX8_bestJudge_77 : decode cX8_bestJudge 77 = .ok (.iload 7, 2) := by decide +kernel
theorem dX8_bestJudge_79 : decode cX8_bestJudge 79 = .ok (.if_icmp .ne 7, 3) := by decide +kernel
theorem dX8_bestJudge_82 : decode cX8_bestJudge 82 = .ok (.iconst 1, 1) := by decide +kernel
theorem dX8_bestJudge_83 : decode cX8_bestJudge 83 = .ok (.goto 4, 3) := by decide +kernel
theorem dX8_bestJudge_86 : decode cX8_bestJudge 86 = .ok (.iconst 0, 1) := by decide +kernel
theorem dX8_bestJudge_87 : decode cX8_bestJudge 87 = .ok (.iadd, 1) := by decide +kernel
theorem dX8_bestJudge_88 : decode cX8_bestJudge 88 = .ok (.istore 8, 2) := by decide +kernel
theorem dX8_bestJudge_90 : decode cX8_bestJudge 90 = .ok (.iinc 9 1, 3) := by decide +kernel
theorem dX8_bestJudge_93 : decode cX8_bestJudge 93 = .ok (.goto (-45), 3) := by decide +kernel
theorem dX8_bestJudge_96 : decode cX8_bestJudge 96 = .ok (.iload 8, 2) := by decide +kernel
theorem dX8_bestJudge_98 : decode cX8_bestJudge 98 = .ok (.iload 6, 2) := by decide +kernel
theorem dX8_bestJudge_100 : decode cX8_bestJudge 100 = .ok (.if_icmp .le 8, 3) := by decide +kernel
theorem dX8_bestJudge_103 : decode cX8_bestJudge 103 = .ok (.iload 8, 2) := by decide +kernel
theorem dX8_bestJudge_105 : decode cX8_bestJudge 105 = .ok (.goto 5, 3) := by decide +kernel
theorem dX8_bestJudge_108 : decode cX8_bestJudge 108 = .ok (.iload 6, 2) := by decide +kernel
theorem dX8_bestJudge_110 : decode cX8_bestJudge 110 = .ok (.istore 6, 2) := by decide +kernel
theorem dX8_bestJudge_112 : decode cX8_bestJudge 112 = .ok (.iinc 7 1, 3) := by decide +kernel
theorem dX8_bestJudge_115 : decode cX8_bestJudge 115 = .ok (.goto (-84), 3) := by decide +kernel
theorem dX8_bestJudge_118 : decode cX8_bestJudge 118 = .ok (.iload 6, 2) := by decide +kernel
theorem dX8_bestJudge_120 : decode cX8_bestJudge 120 = .ok (.iload 4, 2) := by decide +kernel
theorem dX8_bestJudge_122 : decode cX8_bestJudge 122 = .ok (.if_icmp .ge 8, 3) := by decide +kernel
theorem dX8_bestJudge_125 : decode cX8_bestJudge 125 = .ok (.iload 5, 2) := by decide +kernel
theorem dX8_bestJudge_127 : decode cX8_bestJudge 127 = .ok (.goto 4, 3) := by decide +kernel
theorem dX8_bestJudge_130 : decode cX8_bestJudge 130 = .ok (.iload_n 3, 1) := by decide +kernel
theorem dX8_bestJudge_131 : decode cX8_bestJudge 131 = .ok (.istore_n 3, 1) := by decide +kernel
theorem dX8_bestJudge_132 : decode cX8_bestJudge 132 = .ok (.iload 6, 2) := by decide +kernel
theorem dX8_bestJudge_134 : decode cX8_bestJudge 134 = .ok (.iload 4, 2) := by decide +kernel
theorem dX8_bestJudge_136 : decode cX8_bestJudge 136 = .ok (.if_icmp .ge 8, 3) := by decide +kernel
theorem dX8_bestJudge_139 : decode cX8_bestJudge 139 = .ok (.iload 6, 2) := by decide +kernel
theorem dX8_bestJudge_141 : decode cX8_bestJudge 141 = .ok (.goto 5, 3) := by decide +kernel
theorem dX8_bestJudge_144 : decode cX8_bestJudge 144 = .ok (.iload 4, 2) := by decide +kernel
theorem dX8_bestJudge_146 : decode cX8_bestJudge 146 = .ok (.istore 4, 2) := by decide +kernel
theorem dX8_bestJudge_148 : decode cX8_bestJudge 148 = .ok (.iinc 5 1, 3) := by decide +kernel
theorem dX8_bestJudge_151 : decode cX8_bestJudge 151 = .ok (.goto (-141), 3) := by decide +kernel
theorem dX8_bestJudge_154 : decode cX8_bestJudge 154 = .ok (.iload_n 3, 1) := by decide +kernel
theorem dX8_bestJudge_155 : decode cX8_bestJudge 155 = .ok (.ireturn, 1) := by decide +kernel
set_option maxRecDepth 20000 in
theorem ggX8_kinds_X8_isParty : GoodIn wsX8_kinds wsX8_isParty := goodIn_r _ [6, 1, 7, 8, 5, 9, 44, 45, 46, 47, 48, 49, 50, 51, 52, 53, 54, 55, 56, 57, 58, 59, 60, 61, 62, 63, 64, 65] (by decide +kernel) (by decide +kernel)
set_option maxRecDepth 20000 in
theorem gX8_kinds_X8_isParty : GoodIn wsX8_kinds (wsV RX8 110 RX8 yX8_isParty wsX8_isParty) := goodIn_app (goodIn_of _ (by decide +kernel)) ggX8_kinds_X8_isParty
set_option maxRecDepth 20000 in
theorem ggX8_kinds_X8_isSheet : GoodIn wsX8_kinds wsX8_isSheet := goodIn_r _ [12, 7, 8, 5, 9] (by decide +kernel) (by decide +kernel)
set_option maxRecDepth 20000 in
theorem gX8_kinds_X8_isSheet : GoodIn wsX8_kinds (va_wsS RX8 238 yX8_isSheet wsX8_isSheet) := goodIn_app (goodIn_of _ (by decide +kernel)) ggX8_kinds_X8_isSheet
set_option maxRecDepth 20000 in
theorem ggX8_kinds_X8_in : GoodIn wsX8_kinds wsX8_in := goodIn_r _ [9] (by decide +kernel) (by decide +kernel)
set_option maxRecDepth 20000 in
theorem gX8_kinds_X8_in : GoodIn wsX8_kinds (va_wsS RX8 60 yX8_in wsX8_in) := goodIn_app (goodIn_of _ (by decide +kernel)) ggX8_kinds_X8_in
set_option maxRecDepth 20000 in
theorem ggX8_kinds_X8_wrong : GoodIn wsX8_kinds wsX8_wrong := goodIn_r _ [16, 17, 18, 19, 20, 5, 21, 44, 45, 46, 47, 48, 49, 50, 51, 52, 53, 54, 55, 56, 57, 58, 59, 60, 61, 62, 63, 64, 65] (by decide +kernel) (by decide +kernel)
set_option maxRecDepth 20000 in
theorem gX8_kinds_X8_wrong : GoodIn wsX8_kinds (wsV RX8 243 RX8 yX8_wrong wsX8_wrong) := goodIn_app (goodIn_of _ (by decide +kernel)) ggX8_kinds_X8_wrong
set_option maxRecDepth 20000 in
theorem ggX8_kinds_X8_areBelow : GoodIn wsX8_kinds wsX8_areBelow := goodIn_r _ [25, 26, 44, 45, 46, 47, 48, 49, 50, 51, 52, 53, 54, 55, 56, 57, 58, 59, 60, 61, 62, 63, 64, 65] (by decide +kernel) (by decide +kernel)
set_option maxRecDepth 20000 in
theorem gX8_kinds_X8_areBelow : GoodIn wsX8_kinds (wsV RX8 254 RX8 yX8_areBelow wsX8_areBelow) := goodIn_app (goodIn_of _ (by decide +kernel)) ggX8_kinds_X8_areBelow
set_option maxRecDepth 20000 in
theorem ggX8_kinds_X8_kindsBy : GoodIn wsX8_kinds wsX8_kindsBy := goodIn_r _ [30, 1, 26, 31, 32, 5, 33, 34, 35, 36, 44, 45, 46, 47, 48, 49, 50, 51, 52, 53, 54, 55, 56, 57, 58, 59, 60, 61, 62, 63, 64, 65] (by decide +kernel) (by decide +kernel)
set_option maxRecDepth 20000 in
theorem gX8_kinds_X8_kindsBy : GoodIn wsX8_kinds (wsV RX8 264 RX8 yX8_kindsBy wsX8_kindsBy) := goodIn_app (goodIn_of _ (by decide +kernel)) ggX8_kinds_X8_kindsBy
set_option maxRecDepth 20000 in
theorem ggX8_kinds_X8_bestJudge : GoodIn wsX8_kinds wsX8_bestJudge := goodIn_r _ [40, 1, 41, 42, 5, 43, 31, 32, 33, 34, 35, 36, 44, 45, 46, 47, 48, 49, 50, 51, 52, 53, 54, 55, 56, 57, 58, 59, 60, 61, 62, 63, 64, 65] (by decide +kernel) (by decide +kernel)
set_option maxRecDepth 20000 in
theorem gX8_kinds_X8_bestJudge : GoodIn wsX8_kinds (wsV RX8 267 RX8 yX8_bestJudge wsX8_bestJudge) := goodIn_app (goodIn_of _ (by decide +kernel)) ggX8_kinds_X8_bestJudge
theorem dX8_kinds_0 : decode cX8_kinds 0 = .ok (.aload_n 0, 1) := by decide +kernel
theorem dX8_kinds_1 : decode cX8_kinds 1 = .ok (.iload_n 1, 1) := by decide +kernel
theorem dX8_kinds_2 : decode cX8_kinds 2 = .ok (.invokevirtual 110, 3) := by decide +kernel
theorem dX8_kinds_5 : decode cX8_kinds 5 = .ok (.ifCond .eq 40, 3) := by decide +kernel
theorem dX8_kinds_8 : decode cX8_kinds 8 = .ok (.iload_n 2, 1) := by decide +kernel
theorem dX8_kinds_9 : decode cX8_kinds 9 = .ok (.invokestatic 238, 3) := by decide +kernel
theorem dX8_kinds_12 : decode cX8_kinds 12 = .ok (.ifCond .eq 33, 3) := by decide +kernel
theorem dX8_kinds_15 : decode cX8_kinds 15 = .ok (.iload_n 3, 1) := by decide +kernel
theorem dX8_kinds_16 : decode cX8_kinds 16 = .ok (.iconst 0, 1) := by decide +kernel
theorem dX8_kinds_17 : decode cX8_kinds 17 = .ok (.iconst 3, 1) := by decide +kernel
theorem dX8_kinds_18 : decode cX8_kinds 18 = .ok (.invokestatic 60, 3) := by decide +kernel
theorem dX8_kinds_21 : decode cX8_kinds 21 = .ok (.ifCond .eq 24, 3) := by decide +kernel
theorem dX8_kinds_24 : decode cX8_kinds 24 = .ok (.iload 5, 2) := by decide +kernel
theorem dX8_kinds_26 : decode cX8_kinds 26 = .ok (.iconst 1, 1) := by decide +kernel
theorem dX8_kinds_27 : decode cX8_kinds 27 = .ok (.bipush 10, 2) := by decide +kernel
theorem dX8_kinds_29 : decode cX8_kinds 29 = .ok (.invokestatic 60, 3) := by decide +kernel
theorem dX8_kinds_32 : decode cX8_kinds 32 = .ok (.ifCond .eq 13, 3) := by decide +kernel
theorem dX8_kinds_35 : decode cX8_kinds 35 = .ok (.iload 6, 2) := by decide +kernel
theorem dX8_kinds_37 : decode cX8_kinds 37 = .ok (.iconst 0, 1) := by decide +kernel
theorem dX8_kinds_38 : decode cX8_kinds 38 = .ok (.iconst 1, 1) := by decide +kernel
theorem dX8_kinds_39 : decode cX8_kinds 39 = .ok (.invokestatic 60, 3) := by decide +kernel
theorem dX8_kinds_42 : decode cX8_kinds 42 = .ok (.ifCond .ne 5, 3) := by decide +kernel
theorem dX8_kinds_45 : decode cX8_kinds 45 = .ok (.iconst (-1), 1) := by decide +kernel
theorem dX8_kinds_46 : decode cX8_kinds 46 = .ok (.ireturn, 1) := by decide +kernel
theorem dX8_kinds_47 : decode cX8_kinds 47 = .ok (.aload_n 0, 1) := by decide +kernel
theorem dX8_kinds_48 : decode cX8_kinds 48 = .ok (.iload_n 2, 1) := by decide +kernel
theorem dX8_kinds_49 : decode cX8_kinds 49 = .ok (.iload_n 3, 1) := by decide +kernel
theorem dX8_kinds_50 : decode cX8_kinds 50 = .ok (.iload 4, 2) := by decide +kernel
theorem dX8_kinds_52 : decode cX8_kinds 52 = .ok (.iconst 2, 1) := by decide +kernel
theorem dX8_kinds_53 : decode cX8_kinds 53 = .ok (.iload 5, 2) := by decide +kernel
theorem dX8_kinds_55 : decode cX8_kinds 55 = .ok (.imul, 1) := by decide +kernel
theorem dX8_kinds_56 : decode cX8_kinds 56 = .ok (.invokevirtual 243, 3) := by decide +kernel
theorem dX8_kinds_59 : decode cX8_kinds 59 = .ok (.istore 7, 2) := by decide +kernel
theorem dX8_kinds_61 : decode cX8_kinds 61 = .ok (.iload 7, 2) := by decide +kernel
theorem dX8_kinds_63 : decode cX8_kinds 63 = .ok (.ifCond .eq 6, 3) := by decide +kernel
theorem dX8_kinds_66 : decode cX8_kinds 66 = .ok (.iload 7, 2) := by decide +kernel
theorem dX8_kinds_68 : decode cX8_kinds 68 = .ok (.ireturn, 1) := by decide +kernel
theorem dX8_kinds_69 : decode cX8_kinds 69 = .ok (.aload_n 0, 1) := by decide +kernel
theorem dX8_kinds_70 : decode cX8_kinds 70 = .ok (.bipush 24, 2) := by decide +kernel
theorem dX8_kinds_72 : decode cX8_kinds 72 = .ok (.iload_n 2, 1) := by decide +kernel
theorem dX8_kinds_73 : decode cX8_kinds 73 = .ok (.imul, 1) := by decide +kernel
theorem dX8_kinds_74 : decode cX8_kinds 74 = .ok (.iload 4, 2) := by decide +kernel
theorem dX8_kinds_76 : decode cX8_kinds 76 = .ok (.iadd, 1) := by decide +kernel
theorem dX8_kinds_77 : decode cX8_kinds 77 = .ok (.iload 5, 2) := by decide +kernel
theorem dX8_kinds_79 : decode cX8_kinds 79 = .ok (.aload_n 0, 1) := by decide +kernel
theorem dX8_kinds_80 : decode cX8_kinds 80 = .ok (.getfield 23, 3) := by decide +kernel
theorem dX8_kinds_83 : decode cX8_kinds 83 = .ok (.iconst 3, 1) := by decide +kernel
theorem dX8_kinds_84 : decode cX8_kinds 84 = .ok (.iaload, 1) := by decide +kernel
theorem dX8_kinds_85 : decode cX8_kinds 85 = .ok (.aload_n 0, 1) := by decide +kernel
theorem dX8_kinds_86 : decode cX8_kinds 86 = .ok (.getfield 23, 3) := by decide +kernel
theorem dX8_kinds_89 : decode cX8_kinds 89 = .ok (.iconst 3, 1) := by decide +kernel
theorem dX8_kinds_90 : decode cX8_kinds 90 = .ok (.iaload, 1) := by decide +kernel
theorem dX8_kinds_91 : decode cX8_kinds 91 = .ok (.invokevirtual 254, 3) := by decide +kernel
theorem dX8_kinds_94 : decode cX8_kinds 94 = .ok (.ifCond .ne 6, 3) := by decide +kernel
theorem dX8_kinds_97 : decode cX8_kinds 97 = .ok (.bipush (-2), 2) := by decide +kernel
theorem dX8_kinds_99 : decode cX8_kinds 99 = .ok (.ireturn, 1) := by decide +kernel
theorem dX8_kinds_100 : decode cX8_kinds 100 = .ok (.aload_n 0, 1) := by decide +kernel
theorem dX8_kinds_101 : decode cX8_kinds 101 = .ok (.iload_n 1, 1) := by decide +kernel
theorem dX8_kinds_102 : decode cX8_kinds 102 = .ok (.bipush 24, 2) := by decide +kernel
theorem dX8_kinds_104 : decode cX8_kinds 104 = .ok (.iload_n 2, 1) := by decide +kernel
theorem dX8_kinds_105 : decode cX8_kinds 105 = .ok (.imul, 1) := by decide +kernel
theorem dX8_kinds_106 : decode cX8_kinds 106 = .ok (.iload 4, 2) := by decide +kernel
theorem dX8_kinds_108 : decode cX8_kinds 108 = .ok (.iadd, 1) := by decide +kernel
theorem dX8_kinds_109 : decode cX8_kinds 109 = .ok (.iload 5, 2) := by decide +kernel
theorem dX8_kinds_111 : decode cX8_kinds 111 = .ok (.invokevirtual 264, 3) := by decide +kernel
theorem dX8_kinds_114 : decode cX8_kinds 114 = .ok (.istore 8, 2) := by decide +kernel
theorem dX8_kinds_116 : decode cX8_kinds 116 = .ok (.iload 6, 2) := by decide +kernel
theorem dX8_kinds_118 : decode cX8_kinds 118 = .ok (.ifCond .ne 8, 3) := by decide +kernel
theorem dX8_kinds_121 : decode cX8_kinds 121 = .ok (.iload 8, 2) := by decide +kernel
theorem dX8_kinds_123 : decode cX8_kinds 123 = .ok (.goto 10, 3) := by decide +kernel
theorem dX8_kinds_126 : decode cX8_kinds 126 = .ok (.aload_n 0, 1) := by decide +kernel
theorem dX8_kinds_127 : decode cX8_kinds 127 = .ok (.iload_n 1, 1) := by decide +kernel
theorem dX8_kinds_128 : decode cX8_kinds 128 = .ok (.iload 8, 2) := by decide +kernel
theorem dX8_kinds_130 : decode cX8_kinds 130 = .ok (.invokevirtual 267, 3) := by decide +kernel
theorem dX8_kinds_133 : decode cX8_kinds 133 = .ok (.ireturn, 1) := by decide +kernel
set_option maxRecDepth 20000 in
theorem ggX8_justOnes_X8_isJust : GoodIn wsX8_justOnes wsX8_isJust := goodIn_r _ [5] (by decide +kernel) (by decide +kernel)
set_option maxRecDepth 20000 in
theorem gX8_justOnes_X8_isJust : GoodIn wsX8_justOnes (va_wsS RX8 181 yX8_isJust wsX8_isJust) := goodIn_app (goodIn_of _ (by decide +kernel)) ggX8_justOnes_X8_isJust
theorem dX8_justOnes_0 : decode cX8_justOnes 0 = .ok (.iconst 0, 1) := by decide +kernel
theorem dX8_justOnes_1 : decode cX8_justOnes 1 = .ok (.istore_n 1, 1) := by decide +kernel
theorem dX8_justOnes_2 : decode cX8_justOnes 2 = .ok (.iconst 0, 1) := by decide +kernel
theorem dX8_justOnes_3 : decode cX8_justOnes 3 = .ok (.istore_n 2, 1) := by decide +kernel
theorem dX8_justOnes_4 : decode cX8_justOnes 4 = .ok (.iload_n 2, 1) := by decide +kernel
theorem dX8_justOnes_5 : decode cX8_justOnes 5 = .ok (.aload_n 0, 1) := by decide +kernel
theorem dX8_justOnes_6 : decode cX8_justOnes 6 = .ok (.getfield 23, 3) := by decide +kernel
theorem dX8_justOnes_9 : decode cX8_justOnes 9 = .ok (.iconst 0, 1) := by decide +kernel
theorem dX8_justOnes_10 : decode cX8_justOnes 10 = .ok (.iaload, 1) := by decide +kernel
theorem dX8_justOnes_11 : decode cX8_justOnes 11 = .ok (.if_icmp .ge 28, 3) := by decide +kernel
theorem dX8_justOnes_14 : decode cX8_justOnes 14 = .ok (.iload_n 1, 1) := by decide +kernel
theorem dX8_justOnes_15 : decode cX8_justOnes 15 = .ok (.aload_n 0, 1) := by decide +kernel
theorem dX8_justOnes_16 : decode cX8_justOnes 16 = .ok (.getfield 23, 3) := by decide +kernel
theorem dX8_justOnes_19 : decode cX8_justOnes 19 = .ok (.iload_n 2, 1) := by decide +kernel
theorem dX8_justOnes_20 : decode cX8_justOnes 20 = .ok (.invokestatic 181, 3) := by decide +kernel
theorem dX8_justOnes_23 : decode cX8_justOnes 23 = .ok (.ifCond .eq 7, 3) := by decide +kernel
theorem dX8_justOnes_26 : decode cX8_justOnes 26 = .ok (.iconst 1, 1) := by decide +kernel
theorem dX8_justOnes_27 : decode cX8_justOnes 27 = .ok (.goto 4, 3) := by decide +kernel
theorem dX8_justOnes_30 : decode cX8_justOnes 30 = .ok (.iconst 0, 1) := by decide +kernel
theorem dX8_justOnes_31 : decode cX8_justOnes 31 = .ok (.iadd, 1) := by decide +kernel
theorem dX8_justOnes_32 : decode cX8_justOnes 32 = .ok (.istore_n 1, 1) := by decide +kernel
theorem dX8_justOnes_33 : decode cX8_justOnes 33 = .ok (.iinc 2 1, 3) := by decide +kernel
theorem dX8_justOnes_36 : decode cX8_justOnes 36 = .ok (.goto (-32), 3) := by decide +kernel
theorem dX8_justOnes_39 : decode cX8_justOnes 39 = .ok (.iload_n 1, 1) := by decide +kernel
theorem dX8_justOnes_40 : decode cX8_justOnes 40 = .ok (.ireturn, 1) := by decide +kernel
set_option maxRecDepth 20000 in
theorem ggX8_count_X8_griefs : GoodIn wsX8_count wsX8_griefs := goodIn_r _ [7] (by decide +kernel) (by decide +kernel)
set_option maxRecDepth 20000 in
theorem gX8_count_X8_griefs : GoodIn wsX8_count (va_wsS RX8 231 yX8_griefs wsX8_griefs) := goodIn_app (goodIn_of _ (by decide +kernel)) ggX8_count_X8_griefs
set_option maxRecDepth 20000 in
theorem ggX8_count_X8_justOnes : GoodIn wsX8_count wsX8_justOnes := goodIn_r _ [11, 1, 12, 13, 6, 14, 15, 16, 17, 18, 19, 20, 21, 22, 23, 24, 25, 26, 27, 28, 29, 30, 31, 32, 33, 34, 35, 36] (by decide +kernel) (by decide +kernel)
set_option maxRecDepth 20000 in
theorem gX8_count_X8_justOnes : GoodIn wsX8_count (wsV RX8 270 RX8 yX8_justOnes wsX8_justOnes) := goodIn_app (goodIn_of _ (by decide +kernel)) ggX8_count_X8_justOnes
theorem dX8_count_0 : decode cX8_count 0 = .ok (.iload_n 1, 1) := by decide +kernel
theorem dX8_count_1 : decode cX8_count 1 = .ok (.tableswitch 109 0 8 #[51, 58, 65, 72, 79, 86, 94, 99, 104], 51) := by decide +kernel
theorem dX8_count_52 : decode cX8_count 52 = .ok (.aload_n 0, 1) := by decide +kernel
theorem dX8_count_53 : decode cX8_count 53 = .ok (.getfield 23, 3) := by decide +kernel
theorem dX8_count_56 : decode cX8_count 56 = .ok (.iconst 2, 1) := by decide +kernel
theorem dX8_count_57 : decode cX8_count 57 = .ok (.iaload, 1) := by decide +kernel
theorem dX8_count_58 : decode cX8_count 58 = .ok (.ireturn, 1) := by decide +kernel
theorem dX8_count_59 : decode cX8_count 59 = .ok (.aload_n 0, 1) := by decide +kernel
theorem dX8_count_60 : decode cX8_count 60 = .ok (.getfield 23, 3) := by decide +kernel
theorem dX8_count_63 : decode cX8_count 63 = .ok (.iconst 3, 1) := by decide +kernel
theorem dX8_count_64 : decode cX8_count 64 = .ok (.iaload, 1) := by decide +kernel
theorem dX8_count_65 : decode cX8_count 65 = .ok (.ireturn, 1) := by decide +kernel
theorem dX8_count_66 : decode cX8_count 66 = .ok (.aload_n 0, 1) := by decide +kernel
theorem dX8_count_67 : decode cX8_count 67 = .ok (.getfield 23, 3) := by decide +kernel
theorem dX8_count_70 : decode cX8_count 70 = .ok (.iconst 4, 1) := by decide +kernel
theorem dX8_count_71 : decode cX8_count 71 = .ok (.iaload, 1) := by decide +kernel
theorem dX8_count_72 : decode cX8_count 72 = .ok (.ireturn, 1) := by decide +kernel
theorem dX8_count_73 : decode cX8_count 73 = .ok (.aload_n 0, 1) := by decide +kernel
theorem dX8_count_74 : decode cX8_count 74 = .ok (.getfield 23, 3) := by decide +kernel
theorem dX8_count_77 : decode cX8_count 77 = .ok (.iconst 0, 1) := by decide +kernel
theorem dX8_count_78 : decode cX8_count 78 = .ok (.iaload, 1) := by decide +kernel
theorem dX8_count_79 : decode cX8_count 79 = .ok (.ireturn, 1) := by decide +kernel
theorem dX8_count_80 : decode cX8_count 80 = .ok (.aload_n 0, 1) := by decide +kernel
theorem dX8_count_81 : decode cX8_count 81 = .ok (.getfield 23, 3) := by decide +kernel
theorem dX8_count_84 : decode cX8_count 84 = .ok (.iconst 1, 1) := by decide +kernel
theorem dX8_count_85 : decode cX8_count 85 = .ok (.iaload, 1) := by decide +kernel
theorem dX8_count_86 : decode cX8_count 86 = .ok (.ireturn, 1) := by decide +kernel
theorem dX8_count_87 : decode cX8_count 87 = .ok (.aload_n 0, 1) := by decide +kernel
theorem dX8_count_88 : decode cX8_count 88 = .ok (.getfield 23, 3) := by decide +kernel
theorem dX8_count_91 : decode cX8_count 91 = .ok (.invokestatic 231, 3) := by decide +kernel
theorem dX8_count_94 : decode cX8_count 94 = .ok (.ireturn, 1) := by decide +kernel
theorem dX8_count_95 : decode cX8_count 95 = .ok (.aload_n 0, 1) := by decide +kernel
theorem dX8_count_96 : decode cX8_count 96 = .ok (.invokevirtual 270, 3) := by decide +kernel
theorem dX8_count_99 : decode cX8_count 99 = .ok (.ireturn, 1) := by decide +kernel
theorem dX8_count_100 : decode cX8_count 100 = .ok (.aload_n 0, 1) := by decide +kernel
theorem dX8_count_101 : decode cX8_count 101 = .ok (.getfield 103, 3) := by decide +kernel
theorem dX8_count_104 : decode cX8_count 104 = .ok (.ireturn, 1) := by decide +kernel
theorem dX8_count_105 : decode cX8_count 105 = .ok (.aload_n 0, 1) := by decide +kernel
theorem dX8_count_106 : decode cX8_count 106 = .ok (.getfield 64, 3) := by decide +kernel
theorem dX8_count_109 : decode cX8_count 109 = .ok (.ireturn, 1) := by decide +kernel
theorem dX8_count_110 : decode cX8_count 110 = .ok (.iconst (-1), 1) := by decide +kernel
theorem dX8_count_111 : decode cX8_count 111 = .ok (.ireturn, 1) := by decide +kernel
theorem dJ6_bitCount_0f7a4_0 : decode cJ6_bitCount_0f7a4 0 = .ok (.iload_n 0, 1) := by decide +kernel
theorem dJ6_bitCount_0f7a4_1 : decode cJ6_bitCount_0f7a4 1 = .ok (.iload_n 0, 1) := by decide +kernel
theorem dJ6_bitCount_0f7a4_2 : decode cJ6_bitCount_0f7a4 2 = .ok (.iconst 1, 1) := by decide +kernel
theorem dJ6_bitCount_0f7a4_3 : decode cJ6_bitCount_0f7a4 3 = .ok (.iushr, 1) := by decide +kernel
theorem dJ6_bitCount_0f7a4_4 : decode cJ6_bitCount_0f7a4 4 = .ok (.ldc_w 265, 3) := by decide +kernel
theorem dJ6_bitCount_0f7a4_7 : decode cJ6_bitCount_0f7a4 7 = .ok (.iand, 1) := by decide +kernel
theorem dJ6_bitCount_0f7a4_8 : decode cJ6_bitCount_0f7a4 8 = .ok (.isub, 1) := by decide +kernel
theorem dJ6_bitCount_0f7a4_9 : decode cJ6_bitCount_0f7a4 9 = .ok (.istore_n 0, 1) := by decide +kernel
theorem dJ6_bitCount_0f7a4_10 : decode cJ6_bitCount_0f7a4 10 = .ok (.iload_n 0, 1) := by decide +kernel
theorem dJ6_bitCount_0f7a4_11 : decode cJ6_bitCount_0f7a4 11 = .ok (.ldc_w 266, 3) := by decide +kernel
theorem dJ6_bitCount_0f7a4_14 : decode cJ6_bitCount_0f7a4 14 = .ok (.iand, 1) := by decide +kernel
theorem dJ6_bitCount_0f7a4_15 : decode cJ6_bitCount_0f7a4 15 = .ok (.iload_n 0, 1) := by decide +kernel
theorem dJ6_bitCount_0f7a4_16 : decode cJ6_bitCount_0f7a4 16 = .ok (.iconst 2, 1) := by decide +kernel
theorem dJ6_bitCount_0f7a4_17 : decode cJ6_bitCount_0f7a4 17 = .ok (.iushr, 1) := by decide +kernel
theorem dJ6_bitCount_0f7a4_18 : decode cJ6_bitCount_0f7a4 18 = .ok (.ldc_w 266, 3) := by decide +kernel
theorem dJ6_bitCount_0f7a4_21 : decode cJ6_bitCount_0f7a4 21 = .ok (.iand, 1) := by decide +kernel
theorem dJ6_bitCount_0f7a4_22 : decode cJ6_bitCount_0f7a4 22 = .ok (.iadd, 1) := by decide +kernel
theorem dJ6_bitCount_0f7a4_23 : decode cJ6_bitCount_0f7a4 23 = .ok (.istore_n 0, 1) := by decide +kernel
theorem dJ6_bitCount_0f7a4_24 : decode cJ6_bitCount_0f7a4 24 = .ok (.iload_n 0, 1) := by decide +kernel
theorem dJ6_bitCount_0f7a4_25 : decode cJ6_bitCount_0f7a4 25 = .ok (.iload_n 0, 1) := by decide +kernel
theorem dJ6_bitCount_0f7a4_26 : decode cJ6_bitCount_0f7a4 26 = .ok (.iconst 4, 1) := by decide +kernel
theorem dJ6_bitCount_0f7a4_27 : decode cJ6_bitCount_0f7a4 27 = .ok (.iushr, 1) := by decide +kernel
theorem dJ6_bitCount_0f7a4_28 : decode cJ6_bitCount_0f7a4 28 = .ok (.iadd, 1) := by decide +kernel
theorem dJ6_bitCount_0f7a4_29 : decode cJ6_bitCount_0f7a4 29 = .ok (.ldc_w 267, 3) := by decide +kernel
theorem dJ6_bitCount_0f7a4_32 : decode cJ6_bitCount_0f7a4 32 = .ok (.iand, 1) := by decide +kernel
theorem dJ6_bitCount_0f7a4_33 : decode cJ6_bitCount_0f7a4 33 = .ok (.istore_n 0, 1) := by decide +kernel
theorem dJ6_bitCount_0f7a4_34 : decode cJ6_bitCount_0f7a4 34 = .ok (.iload_n 0, 1) := by decide +kernel
theorem dJ6_bitCount_0f7a4_35 : decode cJ6_bitCount_0f7a4 35 = .ok (.iload_n 0, 1) := by decide +kernel
theorem dJ6_bitCount_0f7a4_36 : decode cJ6_bitCount_0f7a4 36 = .ok (.bipush 8, 2) := by decide +kernel
theorem dJ6_bitCount_0f7a4_38 : decode cJ6_bitCount_0f7a4 38 = .ok (.iushr, 1) := by decide +kernel
theorem dJ6_bitCount_0f7a4_39 : decode cJ6_bitCount_0f7a4 39 = .ok (.iadd, 1) := by decide +kernel
theorem dJ6_bitCount_0f7a4_40 : decode cJ6_bitCount_0f7a4 40 = .ok (.istore_n 0, 1) := by decide +kernel
theorem dJ6_bitCount_0f7a4_41 : decode cJ6_bitCount_0f7a4 41 = .ok (.iload_n 0, 1) := by decide +kernel
theorem dJ6_bitCount_0f7a4_42 : decode cJ6_bitCount_0f7a4 42 = .ok (.iload_n 0, 1) := by decide +kernel
theorem dJ6_bitCount_0f7a4_43 : decode cJ6_bitCount_0f7a4 43 = .ok (.bipush 16, 2) := by decide +kernel
theorem dJ6_bitCount_0f7a4_45 : decode cJ6_bitCount_0f7a4 45 = .ok (.iushr, 1) := by decide +kernel
theorem dJ6_bitCount_0f7a4_46 : decode cJ6_bitCount_0f7a4 46 = .ok (.iadd, 1) := by decide +kernel
theorem dJ6_bitCount_0f7a4_47 : decode cJ6_bitCount_0f7a4 47 = .ok (.istore_n 0, 1) := by decide +kernel
theorem dJ6_bitCount_0f7a4_48 : decode cJ6_bitCount_0f7a4 48 = .ok (.iload_n 0, 1) := by decide +kernel
theorem dJ6_bitCount_0f7a4_49 : decode cJ6_bitCount_0f7a4 49 = .ok (.bipush 63, 2) := by decide +kernel
theorem dJ6_bitCount_0f7a4_51 : decode cJ6_bitCount_0f7a4 51 = .ok (.iand, 1) := by decide +kernel
theorem dJ6_bitCount_0f7a4_52 : decode cJ6_bitCount_0f7a4 52 = .ok (.ireturn, 1) := by decide +kernel
theorem dJ9_max_7cf53_0 : decode cJ9_max_7cf53 0 = .ok (.iload_n 0, 1) := by decide +kernel
theorem dJ9_max_7cf53_1 : decode cJ9_max_7cf53 1 = .ok (.iload_n 1, 1) := by decide +kernel
theorem dJ9_max_7cf53_2 : decode cJ9_max_7cf53 2 = .ok (.if_icmp .lt 7, 3) := by decide +kernel
theorem dJ9_max_7cf53_5 : decode cJ9_max_7cf53 5 = .ok (.iload_n 0, 1) := by decide +kernel
theorem dJ9_max_7cf53_6 : decode cJ9_max_7cf53 6 = .ok (.goto 4, 3) := by decide +kernel
theorem dJ9_max_7cf53_9 : decode cJ9_max_7cf53 9 = .ok (.iload_n 1, 1) := by decide +kernel
theorem dJ9_max_7cf53_10 : decode cJ9_max_7cf53 10 = .ok (.ireturn, 1) := by decide +kernel
theorem dJ9_min_7cf53_0 : decode cJ9_min_7cf53 0 = .ok (.iload_n 0, 1) := by decide +kernel
theorem dJ9_min_7cf53_1 : decode cJ9_min_7cf53 1 = .ok (.iload_n 1, 1) := by decide +kernel
theorem dJ9_min_7cf53_2 : decode cJ9_min_7cf53 2 = .ok (.if_icmp .gt 7, 3) := by decide +kernel
theorem dJ9_min_7cf53_5 : decode cJ9_min_7cf53 5 = .ok (.iload_n 0, 1) := by decide +kernel
theorem dJ9_min_7cf53_6 : decode cJ9_min_7cf53 6 = .ok (.goto 4, 3) := by decide +kernel
theorem dJ9_min_7cf53_9 : decode cJ9_min_7cf53 9 = .ok (.iload_n 1, 1) := by decide +kernel
theorem dJ9_min_7cf53_10 : decode cJ9_min_7cf53 10 = .ok (.ireturn, 1) := by decide +kernel
theorem dJ7_fill_d0a16_0 : decode cJ7_fill_d0a16 0 = .ok (.iconst 0, 1) := by decide +kernel
theorem dJ7_fill_d0a16_1 : decode cJ7_fill_d0a16 1 = .ok (.istore_n 3, 1) := by decide +kernel
theorem dJ7_fill_d0a16_2 : decode cJ7_fill_d0a16 2 = .ok (.aload_n 0, 1) := by decide +kernel
theorem dJ7_fill_d0a16_3 : decode cJ7_fill_d0a16 3 = .ok (.arraylength, 1) := by decide +kernel
theorem dJ7_fill_d0a16_4 : decode cJ7_fill_d0a16 4 = .ok (.istore 4, 2) := by decide +kernel
theorem dJ7_fill_d0a16_6 : decode cJ7_fill_d0a16 6 = .ok (.iload_n 3, 1) := by decide +kernel
theorem dJ7_fill_d0a16_7 : decode cJ7_fill_d0a16 7 = .ok (.iload 4, 2) := by decide +kernel
theorem dJ7_fill_d0a16_9 : decode cJ7_fill_d0a16 9 = .ok (.if_icmp .ge 13, 3) := by decide +kernel
theorem dJ7_fill_d0a16_12 : decode cJ7_fill_d0a16 12 = .ok (.aload_n 0, 1) := by decide +kernel
theorem dJ7_fill_d0a16_13 : decode cJ7_fill_d0a16 13 = .ok (.iload_n 3, 1) := by decide +kernel
theorem dJ7_fill_d0a16_14 : decode cJ7_fill_d0a16 14 = .ok (.lload_n 1, 1) := by decide +kernel
theorem dJ7_fill_d0a16_15 : decode cJ7_fill_d0a16 15 = .ok (.lastore, 1) := by decide +kernel
theorem dJ7_fill_d0a16_16 : decode cJ7_fill_d0a16 16 = .ok (.iinc 3 1, 3) := by decide +kernel
theorem dJ7_fill_d0a16_19 : decode cJ7_fill_d0a16 19 = .ok (.goto (-13), 3) := by decide +kernel
theorem dJ7_fill_d0a16_22 : decode cJ7_fill_d0a16 22 = .ok (.return_, 1) := by decide +kernel
theorem dJ7_fill_53178_0 : decode cJ7_fill_53178 0 = .ok (.iconst 0, 1) := by decide +kernel
theorem dJ7_fill_53178_1 : decode cJ7_fill_53178 1 = .ok (.istore_n 2, 1) := by decide +kernel
theorem dJ7_fill_53178_2 : decode cJ7_fill_53178 2 = .ok (.aload_n 0, 1) := by decide +kernel
theorem dJ7_fill_53178_3 : decode cJ7_fill_53178 3 = .ok (.arraylength, 1) := by decide +kernel
theorem dJ7_fill_53178_4 : decode cJ7_fill_53178 4 = .ok (.istore_n 3, 1) := by decide +kernel
theorem dJ7_fill_53178_5 : decode cJ7_fill_53178 5 = .ok (.iload_n 2, 1) := by decide +kernel
theorem dJ7_fill_53178_6 : decode cJ7_fill_53178 6 = .ok (.iload_n 3, 1) := by decide +kernel
theorem dJ7_fill_53178_7 : decode cJ7_fill_53178 7 = .ok (.if_icmp .ge 13, 3) := by decide +kernel
theorem dJ7_fill_53178_10 : decode cJ7_fill_53178 10 = .ok (.aload_n 0, 1) := by decide +kernel
theorem dJ7_fill_53178_11 : decode cJ7_fill_53178 11 = .ok (.iload_n 2, 1) := by decide +kernel
theorem dJ7_fill_53178_12 : decode cJ7_fill_53178 12 = .ok (.iload_n 1, 1) := by decide +kernel
theorem dJ7_fill_53178_13 : decode cJ7_fill_53178 13 = .ok (.iastore, 1) := by decide +kernel
theorem dJ7_fill_53178_14 : decode cJ7_fill_53178 14 = .ok (.iinc 2 1, 3) := by decide +kernel
theorem dJ7_fill_53178_17 : decode cJ7_fill_53178 17 = .ok (.goto (-12), 3) := by decide +kernel
theorem dJ7_fill_53178_20 : decode cJ7_fill_53178 20 = .ok (.return_, 1) := by decide +kernel
abbrev vwCl : List vw_C := [(RX0, TX0, 6), (RX1, TX1, 14), (RX2, TX2, 4), (RX3, TX3, 8), (RX4, TX4, 3), (RX5, TX5, 4), (RX6, TX6, 3), (RX7, TX7, 8), (RX8, TX8, 22)]
