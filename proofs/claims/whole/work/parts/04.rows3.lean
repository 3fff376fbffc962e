theorem dX8_isRead_1 : decode cX8_isRead 1 = .ok (.istore_n 1, 1) := by decide +kernel
theorem dX8_isRead_2 : decode cX8_isRead 2 = .ok (.iload_n 1, 1) := by decide +kernel
theorem dX8_isRead_3 : decode cX8_isRead 3 = .ok (.bipush 83, 2) := by decide +kernel
theorem dX8_isRead_5 : decode cX8_isRead 5 = .ok (.if_icmp .ge 16, 3) := by decide +kernel
theorem dX8_isRead_8 : decode cX8_isRead 8 = .ok (.aload_n 0, 1) := by decide +kernel
theorem dX8_isRead_9 : decode cX8_isRead 9 = .ok (.getfield 26, 3) := by decide +kernel
theorem dX8_isRead_12 : decode cX8_isRead 12 = .ok (.iload_n 1, 1) := by decide +kernel
theorem dX8_isRead_13 : decode cX8_isRead 13 = .ok (.iconst 0, 1) := by decide +kernel
theorem dX8_isRead_14 : decode cX8_isRead 14 = .ok (.iastore, 1) := by decide +kernel
theorem dX8_isRead_15 : decode cX8_isRead 15 = .ok (.iinc 1 1, 3) := by decide +kernel
theorem dX8_isRead_18 : decode cX8_isRead 18 = .ok (.goto (-16), 3) := by decide +kernel
theorem dX8_isRead_21 : decode cX8_isRead 21 = .ok (.aload_n 0, 1) := by decide +kernel
theorem dX8_isRead_22 : decode cX8_isRead 22 = .ok (.iconst 0, 1) := by decide +kernel
theorem dX8_isRead_23 : decode cX8_isRead 23 = .ok (.putfield 68, 3) := by decide +kernel
theorem dX8_isRead_26 : decode cX8_isRead 26 = .ok (.aload_n 0, 1) := by decide +kernel
theorem dX8_isRead_27 : decode cX8_isRead 27 = .ok (.bipush 99, 2) := by decide +kernel
theorem dX8_isRead_29 : decode cX8_isRead 29 = .ok (.invokevirtual 82, 3) := by decide +kernel
theorem dX8_isRead_32 : decode cX8_isRead 32 = .ok (.ifCond .ne 5, 3) := by decide +kernel
theorem dX8_isRead_35 : decode cX8_isRead 35 = .ok (.iconst 0, 1) := by decide +kernel
theorem dX8_isRead_36 : decode cX8_isRead 36 = .ok (.ireturn, 1) := by decide +kernel
theorem dX8_isRead_37 : decode cX8_isRead 37 = .ok (.iconst 1, 1) := by decide +kernel
theorem dX8_isRead_38 : decode cX8_isRead 38 = .ok (.istore_n 1, 1) := by decide +kernel
theorem dX8_isRead_39 : decode cX8_isRead 39 = .ok (.iload_n 1, 1) := by decide +kernel
theorem dX8_isRead_40 : decode cX8_isRead 40 = .ok (.ifCond .eq 41, 3) := by decide +kernel
theorem dX8_isRead_43 : decode cX8_isRead 43 = .ok (.aload_n 0, 1) := by decide +kernel
theorem dX8_isRead_44 : decode cX8_isRead 44 = .ok (.invokevirtual 86, 3) := by decide +kernel
theorem dX8_isRead_47 : decode cX8_isRead 47 = .ok (.ifCond .ne 5, 3) := by decide +kernel
theorem dX8_isRead_50 : decode cX8_isRead 50 = .ok (.iconst 0, 1) := by decide +kernel
theorem dX8_isRead_51 : decode cX8_isRead 51 = .ok (.ireturn, 1) := by decide +kernel
theorem dX8_isRead_52 : decode cX8_isRead 52 = .ok (.aload_n 0, 1) := by decide +kernel
theorem dX8_isRead_53 : decode cX8_isRead 53 = .ok (.getfield 26, 3) := by decide +kernel
theorem dX8_isRead_56 : decode cX8_isRead 56 = .ok (.iconst 2, 1) := by decide +kernel
theorem dX8_isRead_57 : decode cX8_isRead 57 = .ok (.iaload, 1) := by decide +kernel
theorem dX8_isRead_58 : decode cX8_isRead 58 = .ok (.bipush 6, 2) := by decide +kernel
theorem dX8_isRead_60 : decode cX8_isRead 60 = .ok (.if_icmp .ge 16, 3) := by decide +kernel
theorem dX8_isRead_63 : decode cX8_isRead 63 = .ok (.aload_n 0, 1) := by decide +kernel
theorem dX8_isRead_64 : decode cX8_isRead 64 = .ok (.bipush 44, 2) := by decide +kernel
theorem dX8_isRead_66 : decode cX8_isRead 66 = .ok (.invokevirtual 82, 3) := by decide +kernel
theorem dX8_isRead_69 : decode cX8_isRead 69 = .ok (.ifCond .eq 7, 3) := by decide +kernel
theorem dX8_isRead_72 : decode cX8_isRead 72 = .ok (.iconst 1, 1) := by decide +kernel
theorem dX8_isRead_73 : decode cX8_isRead 73 = .ok (.goto 4, 3) := by decide +kernel
theorem dX8_isRead_76 : decode cX8_isRead 76 = .ok (.iconst 0, 1) := by decide +kernel
theorem dX8_isRead_77 : decode cX8_isRead 77 = .ok (.istore_n 1, 1) := by decide +kernel
theorem dX8_isRead_78 : decode cX8_isRead 78 = .ok (.goto (-39), 3) := by decide +kernel
theorem dX8_isRead_81 : decode cX8_isRead 81 = .ok (.aload_n 0, 1) := by decide +kernel
theorem dX8_isRead_82 : decode cX8_isRead 82 = .ok (.getfield 26, 3) := by decide +kernel
theorem dX8_isRead_85 : decode cX8_isRead 85 = .ok (.iconst 2, 1) := by decide +kernel
theorem dX8_isRead_86 : decode cX8_isRead 86 = .ok (.iaload, 1) := by decide +kernel
theorem dX8_isRead_87 : decode cX8_isRead 87 = .ok (.iconst 2, 1) := by decide +kernel
theorem dX8_isRead_88 : decode cX8_isRead 88 = .ok (.if_icmp .lt 12, 3) := by decide +kernel
theorem dX8_isRead_91 : decode cX8_isRead 91 = .ok (.aload_n 0, 1) := by decide +kernel
theorem dX8_isRead_92 : decode cX8_isRead 92 = .ok (.bipush 59, 2) := by decide +kernel
theorem dX8_isRead_94 : decode cX8_isRead 94 = .ok (.invokevirtual 82, 3) := by decide +kernel
theorem dX8_isRead_97 : decode cX8_isRead 97 = .ok (.ifCond .ne 5, 3) := by decide +kernel
theorem dX8_isRead_100 : decode cX8_isRead 100 = .ok (.iconst 0, 1) := by decide +kernel
theorem dX8_isRead_101 : decode cX8_isRead 101 = .ok (.ireturn, 1) := by decide +kernel
theorem dX8_isRead_102 : decode cX8_isRead 102 = .ok (.iconst 1, 1) := by decide +kernel
theorem dX8_isRead_103 : decode cX8_isRead 103 = .ok (.istore_n 1, 1) := by decide +kernel
theorem dX8_isRead_104 : decode cX8_isRead 104 = .ok (.iload_n 1, 1) := by decide +kernel
theorem dX8_isRead_105 : decode cX8_isRead 105 = .ok (.ifCond .eq 41, 3) := by decide +kernel
theorem dX8_isRead_108 : decode cX8_isRead 108 = .ok (.aload_n 0, 1) := by decide +kernel
theorem dX8_isRead_109 : decode cX8_isRead 109 = .ok (.invokevirtual 90, 3) := by decide +kernel
theorem dX8_isRead_112 : decode cX8_isRead 112 = .ok (.ifCond .ne 5, 3) := by decide +kernel
theorem dX8_isRead_115 : decode cX8_isRead 115 = .ok (.iconst 0, 1) := by decide +kernel
theorem dX8_isRead_116 : decode cX8_isRead 116 = .ok (.ireturn, 1) := by decide +kernel
theorem dX8_isRead_117 : decode cX8_isRead 117 = .ok (.aload_n 0, 1) := by decide +kernel
theorem dX8_isRead_118 : decode cX8_isRead 118 = .ok (.getfield 26, 3) := by decide +kernel
theorem dX8_isRead_121 : decode cX8_isRead 121 = .ok (.iconst 3, 1) := by decide +kernel
theorem dX8_isRead_122 : decode cX8_isRead 122 = .ok (.iaload, 1) := by decide +kernel
theorem dX8_isRead_123 : decode cX8_isRead 123 = .ok (.bipush 6, 2) := by decide +kernel
theorem dX8_isRead_125 : decode cX8_isRead 125 = .ok (.if_icmp .ge 16, 3) := by decide +kernel
theorem dX8_isRead_128 : decode cX8_isRead 128 = .ok (.aload_n 0, 1) := by decide +kernel
theorem dX8_isRead_129 : decode cX8_isRead 129 = .ok (.bipush 44, 2) := by decide +kernel
theorem dX8_isRead_131 : decode cX8_isRead 131 = .ok (.invokevirtual 82, 3) := by decide +kernel
theorem dX8_isRead_134 : decode cX8_isRead 134 = .ok (.ifCond .eq 7, 3) := by decide +kernel
theorem dX8_isRead_137 : decode cX8_isRead 137 = .ok (.iconst 1, 1) := by decide +kernel
theorem dX8_isRead_138 : decode cX8_isRead 138 = .ok (.goto 4, 3) := by decide +kernel
theorem dX8_isRead_141 : decode cX8_isRead 141 = .ok (.iconst 0, 1) := by decide +kernel
theorem dX8_isRead_142 : decode cX8_isRead 142 = .ok (.istore_n 1, 1) := by decide +kernel
theorem dX8_isRead_143 : decode cX8_isRead 143 = .ok (.goto (-39), 3) := by decide +kernel
theorem dX8_isRead_146 : decode cX8_isRead 146 = .ok (.aload_n 0, 1) := by decide +kernel
theorem dX8_isRead_147 : decode cX8_isRead 147 = .ok (.bipush 59, 2) := by decide +kernel
theorem dX8_isRead_149 : decode cX8_isRead 149 = .ok (.invokevirtual 82, 3) := by decide +kernel
theorem dX8_isRead_152 : decode cX8_isRead 152 = .ok (.ifCond .ne 5, 3) := by decide +kernel
theorem dX8_isRead_155 : decode cX8_isRead 155 = .ok (.iconst 0, 1) := by decide +kernel
theorem dX8_isRead_156 : decode cX8_isRead 156 = .ok (.ireturn, 1) := by decide +kernel
theorem dX8_isRead_157 : decode cX8_isRead 157 = .ok (.iconst 1, 1) := by decide +kernel
theorem dX8_isRead_158 : decode cX8_isRead 158 = .ok (.istore_n 1, 1) := by decide +kernel
theorem dX8_isRead_159 : decode cX8_isRead 159 = .ok (.iload_n 1, 1) := by decide +kernel
theorem dX8_isRead_160 : decode cX8_isRead 160 = .ok (.ifCond .eq 41, 3) := by decide +kernel
theorem dX8_isRead_163 : decode cX8_isRead 163 = .ok (.aload_n 0, 1) := by decide +kernel
theorem dX8_isRead_164 : decode cX8_isRead 164 = .ok (.invokevirtual 93, 3) := by decide +kernel
theorem dX8_isRead_167 : decode cX8_isRead 167 = .ok (.ifCond .ne 5, 3) := by decide +kernel
theorem dX8_isRead_170 : decode cX8_isRead 170 = .ok (.iconst 0, 1) := by decide +kernel
theorem dX8_isRead_171 : decode cX8_isRead 171 = .ok (.ireturn, 1) := by decide +kernel
theorem dX8_isRead_172 : decode cX8_isRead 172 = .ok (.aload_n 0, 1) := by decide +kernel
theorem dX8_isRead_173 : decode cX8_isRead 173 = .ok (.getfield 26, 3) := by decide +kernel
theorem dX8_isRead_176 : decode cX8_isRead 176 = .ok (.iconst 4, 1) := by decide +kernel
theorem dX8_isRead_177 : decode cX8_isRead 177 = .ok (.iaload, 1) := by decide +kernel
theorem dX8_isRead_178 : decode cX8_isRead 178 = .ok (.bipush 12, 2) := by decide +kernel
theorem dX8_isRead_180 : decode cX8_isRead 180 = .ok (.if_icmp .ge 16, 3) := by decide +kernel
theorem dX8_isRead_183 : decode cX8_isRead 183 = .ok (.aload_n 0, 1) := by decide +kernel
theorem dX8_isRead_184 : decode cX8_isRead 184 = .ok (.bipush 44, 2) := by decide +kernel
theorem dX8_isRead_186 : decode cX8_isRead 186 = .ok (.invokevirtual 82, 3) := by decide +kernel
theorem dX8_isRead_189 : decode cX8_isRead 189 = .ok (.ifCond .eq 7, 3) := by decide +kernel
theorem dX8_isRead_192 : decode cX8_isRead 192 = .ok (.iconst 1, 1) := by decide +kernel
theorem dX8_isRead_193 : decode cX8_isRead 193 = .ok (.goto 4, 3) := by decide +kernel
theorem dX8_isRead_196 : decode cX8_isRead 196 = .ok (.iconst 0, 1) := by decide +kernel
theorem dX8_isRead_197 : decode cX8_isRead 197 = .ok (.istore_n 1, 1) := by decide +kernel
theorem dX8_isRead_198 : decode cX8_isRead 198 = .ok (.goto (-39), 3) := by decide +kernel
theorem dX8_isRead_201 : decode cX8_isRead 201 = .ok (.aload_n 0, 1) := by decide +kernel
theorem dX8_isRead_202 : decode cX8_isRead 202 = .ok (.bipush 59, 2) := by decide +kernel
theorem dX8_isRead_204 : decode cX8_isRead 204 = .ok (.invokevirtual 82, 3) := by decide +kernel
theorem dX8_isRead_207 : decode cX8_isRead 207 = .ok (.ifCond .ne 5, 3) := by decide +kernel
theorem dX8_isRead_210 : decode cX8_isRead 210 = .ok (.iconst 0, 1) := by decide +kernel
theorem dX8_isRead_211 : decode cX8_isRead 211 = .ok (.ireturn, 1) := by decide +kernel
theorem dX8_isRead_212 : decode cX8_isRead 212 = .ok (.aload_n 0, 1) := by decide +kernel
theorem dX8_isRead_213 : decode cX8_isRead 213 = .ok (.getfield 26, 3) := by decide +kernel
theorem dX8_isRead_216 : decode cX8_isRead 216 = .ok (.iconst 1, 1) := by decide +kernel
theorem dX8_isRead_217 : decode cX8_isRead 217 = .ok (.aload_n 0, 1) := by decide +kernel
theorem dX8_isRead_218 : decode cX8_isRead 218 = .ok (.aload_n 0, 1) := by decide +kernel
theorem dX8_isRead_219 : decode cX8_isRead 219 = .ok (.getfield 26, 3) := by decide +kernel
theorem dX8_isRead_222 : decode cX8_isRead 222 = .ok (.iconst 3, 1) := by decide +kernel
theorem dX8_isRead_223 : decode cX8_isRead 223 = .ok (.iaload, 1) := by decide +kernel
theorem dX8_isRead_224 : decode cX8_isRead 224 = .ok (.iconst 1, 1) := by decide +kernel
theorem dX8_isRead_225 : decode cX8_isRead 225 = .ok (.isub, 1) := by decide +kernel
theorem dX8_isRead_226 : decode cX8_isRead 226 = .ok (.invokevirtual 79, 3) := by decide +kernel
theorem dX8_isRead_229 : decode cX8_isRead 229 = .ok (.iastore, 1) := by decide +kernel
theorem dX8_isRead_230 : decode cX8_isRead 230 = .ok (.aload_n 0, 1) := by decide +kernel
theorem dX8_isRead_231 : decode cX8_isRead 231 = .ok (.getfield 26, 3) := by decide +kernel
theorem dX8_isRead_234 : decode cX8_isRead 234 = .ok (.iconst 1, 1) := by decide +kernel
theorem dX8_isRead_235 : decode cX8_isRead 235 = .ok (.iaload, 1) := by decide +kernel
theorem dX8_isRead_236 : decode cX8_isRead 236 = .ok (.ifCond .lt 18, 3) := by decide +kernel
theorem dX8_isRead_239 : decode cX8_isRead 239 = .ok (.aload_n 0, 1) := by decide +kernel
theorem dX8_isRead_240 : decode cX8_isRead 240 = .ok (.getfield 68, 3) := by decide +kernel
theorem dX8_isRead_243 : decode cX8_isRead 243 = .ok (.aload_n 0, 1) := by decide +kernel
theorem dX8_isRead_244 : decode cX8_isRead 244 = .ok (.getfield 64, 3) := by decide +kernel
theorem dX8_isRead_247 : decode cX8_isRead 247 = .ok (.if_icmp .ne 7, 3) := by decide +kernel
theorem dX8_isRead_250 : decode cX8_isRead 250 = .ok (.iconst 1, 1) := by decide +kernel
theorem dX8_isRead_251 : decode cX8_isRead 251 = .ok (.goto 4, 3) := by decide +kernel
theorem dX8_isRead_254 : decode cX8_isRead 254 = .ok (.iconst 0, 1) := by decide +kernel
theorem dX8_isRead_255 : decode cX8_isRead 255 = .ok (.ireturn, 1) := by decide +kernel
set_option maxRecDepth 20000 in
theorem ggX8_circuit_X8_isRead : GoodIn wsX8_circuit wsX8_isRead := goodIn_r _ [10, 3, 2, 1, 11, 12, 13, 9, 14, 15, 16, 17, 18, 19, 20, 21, 22, 23, 24, 25, 26, 27, 28, 29, 30, 31, 32, 33, 34, 35, 36, 37, 38, 39, 40, 41, 45, 46, 47, 48, 49, 50, 51, 52, 53, 54, 55, 56, 57, 58, 59, 60, 61, 62, 63, 64, 65, 66] (by decide +kernel) (by decide +kernel)
set_option maxRecDepth 20000 in
theorem gX8_circuit_X8_isRead : GoodIn wsX8_circuit (wsV RX8 96 RX8 yX8_isRead wsX8_isRead) := goodIn_app (goodIn_of _ (by decide +kernel)) ggX8_circuit_X8_isRead
set_option maxRecDepth 20000 in
theorem ggX8_circuit_X8_bring : GoodIn wsX8_circuit wsX8_bring := goodIn_r _ [44] (by decide +kernel) (by decide +kernel)
set_option maxRecDepth 20000 in
theorem gX8_circuit_X8_bring : GoodIn wsX8_circuit (va_wsS RX8 99 yX8_bring wsX8_bring) := goodIn_app (goodIn_of _ (by decide +kernel)) ggX8_circuit_X8_bring
theorem dX8_circuit_0 : decode cX8_circuit 0 = .ok (.aload_n 0, 1) := by decide +kernel
theorem dX8_circuit_1 : decode cX8_circuit 1 = .ok (.invokevirtual 96, 3) := by decide +kernel
theorem dX8_circuit_4 : decode cX8_circuit 4 = .ok (.istore_n 1, 1) := by decide +kernel
theorem dX8_circuit_5 : decode cX8_circuit 5 = .ok (.aload_n 0, 1) := by decide +kernel
theorem dX8_circuit_6 : decode cX8_circuit 6 = .ok (.iconst 0, 1) := by decide +kernel
theorem dX8_circuit_7 : decode cX8_circuit 7 = .ok (.putfield 64, 3) := by decide +kernel
theorem dX8_circuit_10 : decode cX8_circuit 10 = .ok (.iload_n 1, 1) := by decide +kernel
theorem dX8_circuit_11 : decode cX8_circuit 11 = .ok (.ifCond .ne 11, 3) := by decide +kernel
theorem dX8_circuit_14 : decode cX8_circuit 14 = .ok (.bipush (-100), 2) := by decide +kernel
theorem dX8_circuit_16 : decode cX8_circuit 16 = .ok (.aload_n 0, 1) := by decide +kernel
theorem dX8_circuit_17 : decode cX8_circuit 17 = .ok (.getfield 68, 3) := by decide +kernel
theorem dX8_circuit_20 : decode cX8_circuit 20 = .ok (.isub, 1) := by decide +kernel
theorem dX8_circuit_21 : decode cX8_circuit 21 = .ok (.ireturn, 1) := by decide +kernel
theorem dX8_circuit_22 : decode cX8_circuit 22 = .ok (.aload_n 0, 1) := by decide +kernel
theorem dX8_circuit_23 : decode cX8_circuit 23 = .ok (.getfield 26, 3) := by decide +kernel
theorem dX8_circuit_26 : decode cX8_circuit 26 = .ok (.iconst 0, 1) := by decide +kernel
theorem dX8_circuit_27 : decode cX8_circuit 27 = .ok (.aload_n 0, 1) := by decide +kernel
theorem dX8_circuit_28 : decode cX8_circuit 28 = .ok (.getfield 23, 3) := by decide +kernel
theorem dX8_circuit_31 : decode cX8_circuit 31 = .ok (.iconst 0, 1) := by decide +kernel
theorem dX8_circuit_32 : decode cX8_circuit 32 = .ok (.bipush 83, 2) := by decide +kernel
theorem dX8_circuit_34 : decode cX8_circuit 34 = .ok (.invokestatic 99, 3) := by decide +kernel
theorem dX8_circuit_37 : decode cX8_circuit 37 = .ok (.aload_n 0, 1) := by decide +kernel
theorem dX8_circuit_38 : decode cX8_circuit 38 = .ok (.iconst 0, 1) := by decide +kernel
theorem dX8_circuit_39 : decode cX8_circuit 39 = .ok (.putfield 103, 3) := by decide +kernel
theorem dX8_circuit_42 : decode cX8_circuit 42 = .ok (.aload_n 0, 1) := by decide +kernel
theorem dX8_circuit_43 : decode cX8_circuit 43 = .ok (.getfield 23, 3) := by decide +kernel
theorem dX8_circuit_46 : decode cX8_circuit 46 = .ok (.iconst 4, 1) := by decide +kernel
theorem dX8_circuit_47 : decode cX8_circuit 47 = .ok (.iaload, 1) := by decide +kernel
theorem dX8_circuit_48 : decode cX8_circuit 48 = .ok (.ireturn, 1) := by decide +kernel
theorem dX8_liking_0 : decode cX8_liking 0 = .ok (.aload_n 0, 1) := by decide +kernel
theorem dX8_liking_1 : decode cX8_liking 1 = .ok (.bipush 23, 2) := by decide +kernel
theorem dX8_liking_3 : decode cX8_liking 3 = .ok (.iload_n 2, 1) := by decide +kernel
theorem dX8_liking_4 : decode cX8_liking 4 = .ok (.iadd, 1) := by decide +kernel
theorem dX8_liking_5 : decode cX8_liking 5 = .ok (.iaload, 1) := by decide +kernel
theorem dX8_liking_6 : decode cX8_liking 6 = .ok (.istore 4, 2) := by decide +kernel
theorem dX8_liking_8 : decode cX8_liking 8 = .ok (.iload_n 3, 1) := by decide +kernel
theorem dX8_liking_9 : decode cX8_liking 9 = .ok (.tableswitch 56 2 5 #[31, 56, 53, 34], 31) := by decide +kernel
theorem dX8_liking_40 : decode cX8_liking 40 = .ok (.iload 4, 2) := by decide +kernel
theorem dX8_liking_42 : decode cX8_liking 42 = .ok (.ireturn, 1) := by decide +kernel
theorem dX8_liking_43 : decode cX8_liking 43 = .ok (.iload 4, 2) := by decide +kernel
theorem dX8_liking_45 : decode cX8_liking 45 = .ok (.aload_n 0, 1) := by decide +kernel
theorem dX8_liking_46 : decode cX8_liking 46 = .ok (.bipush 29, 2) := by decide +kernel
theorem dX8_liking_48 : decode cX8_liking 48 = .ok (.iload_n 2, 1) := by decide +kernel
theorem dX8_liking_49 : decode cX8_liking 49 = .ok (.iadd, 1) := by decide +kernel
theorem dX8_liking_50 : decode cX8_liking 50 = .ok (.iaload, 1) := by decide +kernel
theorem dX8_liking_51 : decode cX8_liking 51 = .ok (.iload_n 1, 1) := by decide +kernel
theorem dX8_liking_52 : decode cX8_liking 52 = .ok (.if_icmp .ne 7, 3) := by decide +kernel
theorem dX8_liking_55 : decode cX8_liking 55 = .ok (.iconst 5, 1) := by decide +kernel
theorem dX8_liking_56 : decode cX8_liking 56 = .ok (.goto 4, 3) := by decide +kernel
theorem dX8_liking_59 : decode cX8_liking 59 = .ok (.iconst 0, 1) := by decide +kernel
theorem dX8_liking_60 : decode cX8_liking 60 = .ok (.iadd, 1) := by decide +kernel
theorem dX8_liking_61 : decode cX8_liking 61 = .ok (.ireturn, 1) := by decide +kernel
theorem dX8_liking_62 : decode cX8_liking 62 = .ok (.iload_n 2, 1) := by decide +kernel
theorem dX8_liking_63 : decode cX8_liking 63 = .ok (.ineg, 1) := by decide +kernel
theorem dX8_liking_64 : decode cX8_liking 64 = .ok (.ireturn, 1) := by decide +kernel
theorem dX8_liking_65 : decode cX8_liking 65 = .ok (.iload 4, 2) := by decide +kernel
theorem dX8_liking_67 : decode cX8_liking 67 = .ok (.ineg, 1) := by decide +kernel
theorem dX8_liking_68 : decode cX8_liking 68 = .ok (.ireturn, 1) := by decide +kernel
set_option maxRecDepth 20000 in
theorem ggX8_namedBy_X8_liking : GoodIn wsX8_namedBy wsX8_liking := goodIn_r _ [4] (by decide +kernel) (by decide +kernel)
set_option maxRecDepth 20000 in
theorem gX8_namedBy_X8_liking : GoodIn wsX8_namedBy (va_wsS RX8 106 yX8_liking wsX8_liking) := goodIn_app (goodIn_of _ (by decide +kernel)) ggX8_namedBy_X8_liking
theorem dX8_namedBy_0 : decode cX8_namedBy 0 = .ok (.iload_n 2, 1) := by decide +kernel
theorem dX8_namedBy_1 : decode cX8_namedBy 1 = .ok (.iconst 3, 1) := by decide +kernel
theorem dX8_namedBy_2 : decode cX8_namedBy 2 = .ok (.if_icmp .eq 10, 3) := by decide +kernel
theorem dX8_namedBy_5 : decode cX8_namedBy 5 = .ok (.aload_n 0, 1) := by decide +kernel
theorem dX8_namedBy_6 : decode cX8_namedBy 6 = .ok (.iconst 3, 1) := by decide +kernel
theorem dX8_namedBy_7 : decode cX8_namedBy 7 = .ok (.iaload, 1) := by decide +kernel
theorem dX8_namedBy_8 : decode cX8_namedBy 8 = .ok (.iconst 1, 1) := by decide +kernel
theorem dX8_namedBy_9 : decode cX8_namedBy 9 = .ok (.if_icmp .ne 5, 3) := by decide +kernel
theorem dX8_namedBy_12 : decode cX8_namedBy 12 = .ok (.iload_n 3, 1) := by decide +kernel
theorem dX8_namedBy_13 : decode cX8_namedBy 13 = .ok (.ireturn, 1) := by decide +kernel
theorem dX8_namedBy_14 : decode cX8_namedBy 14 = .ok (.iload_n 2, 1) := by decide +kernel
theorem dX8_namedBy_15 : decode cX8_namedBy 15 = .ok (.iconst 4, 1) := by decide +kernel
theorem dX8_namedBy_16 : decode cX8_namedBy 16 = .ok (.if_icmp .ne 11, 3) := by decide +kernel
theorem dX8_namedBy_19 : decode cX8_namedBy 19 = .ok (.iload_n 3, 1) := by decide +kernel
theorem dX8_namedBy_20 : decode cX8_namedBy 20 = .ok (.iconst 1, 1) := by decide +kernel
theorem dX8_namedBy_21 : decode cX8_namedBy 21 = .ok (.iadd, 1) := by decide +kernel
theorem dX8_namedBy_22 : decode cX8_namedBy 22 = .ok (.aload_n 0, 1) := by decide +kernel
theorem dX8_namedBy_23 : decode cX8_namedBy 23 = .ok (.iconst 3, 1) := by decide +kernel
theorem dX8_namedBy_24 : decode cX8_namedBy 24 = .ok (.iaload, 1) := by decide +kernel
theorem dX8_namedBy_25 : decode cX8_namedBy 25 = .ok (.irem, 1) := by decide +kernel
theorem dX8_namedBy_26 : decode cX8_namedBy 26 = .ok (.ireturn, 1) := by decide +kernel
theorem dX8_namedBy_27 : decode cX8_namedBy 27 = .ok (.bipush (-4), 2) := by decide +kernel
theorem dX8_namedBy_29 : decode cX8_namedBy 29 = .ok (.istore 4, 2) := by decide +kernel
theorem dX8_namedBy_31 : decode cX8_namedBy 31 = .ok (.iconst 0, 1) := by decide +kernel
theorem dX8_namedBy_32 : decode cX8_namedBy 32 = .ok (.istore 5, 2) := by decide +kernel
theorem dX8_namedBy_34 : decode cX8_namedBy 34 = .ok (.iload 5, 2) := by decide +kernel
theorem dX8_namedBy_36 : decode cX8_namedBy 36 = .ok (.aload_n 0, 1) := by decide +kernel
theorem dX8_namedBy_37 : decode cX8_namedBy 37 = .ok (.iconst 3, 1) := by decide +kernel
theorem dX8_namedBy_38 : decode cX8_namedBy 38 = .ok (.iaload, 1) := by decide +kernel
theorem dX8_namedBy_39 : decode cX8_namedBy 39 = .ok (.if_icmp .ge 62, 3) := by decide +kernel
theorem dX8_namedBy_42 : decode cX8_namedBy 42 = .ok (.iload 4, 2) := by decide +kernel
theorem dX8_namedBy_44 : decode cX8_namedBy 44 = .ok (.bipush (-4), 2) := by decide +kernel
theorem dX8_namedBy_46 : decode cX8_namedBy 46 = .ok (.if_icmp .eq 22, 3) := by decide +kernel
theorem dX8_namedBy_49 : decode cX8_namedBy 49 = .ok (.aload_n 0, 1) := by decide +kernel
theorem dX8_namedBy_50 : decode cX8_namedBy 50 = .ok (.iload_n 1, 1) := by decide +kernel
theorem dX8_namedBy_51 : decode cX8_namedBy 51 = .ok (.iload 5, 2) := by decide +kernel
theorem dX8_namedBy_53 : decode cX8_namedBy 53 = .ok (.iload_n 2, 1) := by decide +kernel
theorem dX8_namedBy_54 : decode cX8_namedBy 54 = .ok (.invokestatic 106, 3) := by decide +kernel
theorem dX8_namedBy_57 : decode cX8_namedBy 57 = .ok (.aload_n 0, 1) := by decide +kernel
theorem dX8_namedBy_58 : decode cX8_namedBy 58 = .ok (.iload_n 1, 1) := by decide +kernel
theorem dX8_namedBy_59 : decode cX8_namedBy 59 = .ok (.iload 4, 2) := by decide +kernel
theorem dX8_namedBy_61 : decode cX8_namedBy 61 = .ok (.iload_n 2, 1) := by decide +kernel
theorem dX8_namedBy_62 : decode cX8_namedBy 62 = .ok (.invokestatic 106, 3) := by decide +kernel
theorem dX8_namedBy_65 : decode cX8_namedBy 65 = .ok (.if_icmp .le 7, 3) := by decide +kernel
theorem dX8_namedBy_68 : decode cX8_namedBy 68 = .ok (.iconst 1, 1) := by decide +kernel
theorem dX8_namedBy_69 : decode cX8_namedBy 69 = .ok (.goto 4, 3) := by decide +kernel
theorem dX8_namedBy_72 : decode cX8_namedBy 72 = .ok (.iconst 0, 1) := by decide +kernel
theorem dX8_namedBy_73 : decode cX8_namedBy 73 = .ok (.istore 6, 2) := by decide +kernel
theorem dX8_namedBy_75 : decode cX8_namedBy 75 = .ok (.iload 5, 2) := by decide +kernel
theorem dX8_namedBy_77 : decode cX8_namedBy 77 = .ok (.iload_n 3, 1) := by decide +kernel
theorem dX8_namedBy_78 : decode cX8_namedBy 78 = .ok (.if_icmp .eq 13, 3) := by decide +kernel
theorem dX8_namedBy_81 : decode cX8_namedBy 81 = .ok (.iload 6, 2) := by decide +kernel
theorem dX8_namedBy_83 : decode cX8_namedBy 83 = .ok (.ifCond .eq 8, 3) := by decide +kernel
theorem dX8_namedBy_86 : decode cX8_namedBy 86 = .ok (.iload 5, 2) := by decide +kernel
theorem dX8_namedBy_88 : decode cX8_namedBy 88 = .ok (.goto 5, 3) := by decide +kernel
theorem dX8_namedBy_91 : decode cX8_namedBy 91 = .ok (.iload 4, 2) := by decide +kernel
theorem dX8_namedBy_93 : decode cX8_namedBy 93 = .ok (.istore 4, 2) := by decide +kernel
theorem dX8_namedBy_95 : decode cX8_namedBy 95 = .ok (.iinc 5 1, 3) := by decide +kernel
theorem dX8_namedBy_98 : decode cX8_namedBy 98 = .ok (.goto (-64), 3) := by decide +kernel
theorem dX8_namedBy_101 : decode cX8_namedBy 101 = .ok (.iload 4, 2) := by decide +kernel
theorem dX8_namedBy_103 : decode cX8_namedBy 103 = .ok (.ireturn, 1) := by decide +kernel
theorem dX8_hurts_0 : decode cX8_hurts 0 = .ok (.iload_n 0, 1) := by decide +kernel
theorem dX8_hurts_1 : decode cX8_hurts 1 = .ok (.tableswitch 49 1 5 #[35, 37, 49, 47, 41], 35) := by decide +kernel
theorem dX8_hurts_36 : decode cX8_hurts 36 = .ok (.iload_n 1, 1) := by decide +kernel
theorem dX8_hurts_37 : decode cX8_hurts 37 = .ok (.ireturn, 1) := by decide +kernel
theorem dX8_hurts_38 : decode cX8_hurts 38 = .ok (.iconst 2, 1) := by decide +kernel
theorem dX8_hurts_39 : decode cX8_hurts 39 = .ok (.iload_n 1, 1) := by decide +kernel
theorem dX8_hurts_40 : decode cX8_hurts 40 = .ok (.imul, 1) := by decide +kernel
theorem dX8_hurts_41 : decode cX8_hurts 41 = .ok (.ireturn, 1) := by decide +kernel
theorem dX8_hurts_42 : decode cX8_hurts 42 = .ok (.iconst 2, 1) := by decide +kernel
theorem dX8_hurts_43 : decode cX8_hurts 43 = .ok (.iload_n 1, 1) := by decide +kernel
theorem dX8_hurts_44 : decode cX8_hurts 44 = .ok (.imul, 1) := by decide +kernel
theorem dX8_hurts_45 : decode cX8_hurts 45 = .ok (.iconst 1, 1) := by decide +kernel
theorem dX8_hurts_46 : decode cX8_hurts 46 = .ok (.iadd, 1) := by decide +kernel
theorem dX8_hurts_47 : decode cX8_hurts 47 = .ok (.ireturn, 1) := by decide +kernel
theorem dX8_hurts_48 : decode cX8_hurts 48 = .ok (.iconst 1, 1) := by decide +kernel
theorem dX8_hurts_49 : decode cX8_hurts 49 = .ok (.ireturn, 1) := by decide +kernel
theorem dX8_hurts_50 : decode cX8_hurts 50 = .ok (.iconst 0, 1) := by decide +kernel
theorem dX8_hurts_51 : decode cX8_hurts 51 = .ok (.ireturn, 1) := by decide +kernel
theorem dX8_foundBy_0 : decode cX8_foundBy 0 = .ok (.aload_n 0, 1) := by decide +kernel
theorem dX8_foundBy_1 : decode cX8_foundBy 1 = .ok (.bipush 29, 2) := by decide +kernel
theorem dX8_foundBy_3 : decode cX8_foundBy 3 = .ok (.iload_n 1, 1) := by decide +kernel
theorem dX8_foundBy_4 : decode cX8_foundBy 4 = .ok (.iadd, 1) := by decide +kernel
theorem dX8_foundBy_5 : decode cX8_foundBy 5 = .ok (.iaload, 1) := by decide +kernel
theorem dX8_foundBy_6 : decode cX8_foundBy 6 = .ok (.istore 4, 2) := by decide +kernel
theorem dX8_foundBy_8 : decode cX8_foundBy 8 = .ok (.aload_n 0, 1) := by decide +kernel
theorem dX8_foundBy_9 : decode cX8_foundBy 9 = .ok (.bipush 59, 2) := by decide +kernel
theorem dX8_foundBy_11 : decode cX8_foundBy 11 = .ok (.iload_n 3, 1) := by decide +kernel
theorem dX8_foundBy_12 : decode cX8_foundBy 12 = .ok (.iadd, 1) := by decide +kernel
theorem dX8_foundBy_13 : decode cX8_foundBy 13 = .ok (.iaload, 1) := by decide +kernel
theorem dX8_foundBy_14 : decode cX8_foundBy 14 = .ok (.iload 4, 2) := by decide +kernel
theorem dX8_foundBy_16 : decode cX8_foundBy 16 = .ok (.aload_n 0, 1) := by decide +kernel
theorem dX8_foundBy_17 : decode cX8_foundBy 17 = .ok (.bipush 35, 2) := by decide +kernel
theorem dX8_foundBy_19 : decode cX8_foundBy 19 = .ok (.iload_n 3, 1) := by decide +kernel
theorem dX8_foundBy_20 : decode cX8_foundBy 20 = .ok (.iadd, 1) := by decide +kernel
theorem dX8_foundBy_21 : decode cX8_foundBy 21 = .ok (.iaload, 1) := by decide +kernel
theorem dX8_foundBy_22 : decode cX8_foundBy 22 = .ok (.if_icmp .ne 7, 3) := by decide +kernel
theorem dX8_foundBy_25 : decode cX8_foundBy 25 = .ok (.iconst 2, 1) := by decide +kernel
theorem dX8_foundBy_26 : decode cX8_foundBy 26 = .ok (.goto 4, 3) := by decide +kernel
theorem dX8_foundBy_29 : decode cX8_foundBy 29 = .ok (.iconst 0, 1) := by decide +kernel
theorem dX8_foundBy_30 : decode cX8_foundBy 30 = .ok (.iadd, 1) := by decide +kernel
theorem dX8_foundBy_31 : decode cX8_foundBy 31 = .ok (.iload 4, 2) := by decide +kernel
theorem dX8_foundBy_33 : decode cX8_foundBy 33 = .ok (.aload_n 0, 1) := by decide +kernel
theorem dX8_foundBy_34 : decode cX8_foundBy 34 = .ok (.bipush 47, 2) := by decide +kernel
theorem dX8_foundBy_36 : decode cX8_foundBy 36 = .ok (.iload_n 3, 1) := by decide +kernel
theorem dX8_foundBy_37 : decode cX8_foundBy 37 = .ok (.iadd, 1) := by decide +kernel
theorem dX8_foundBy_38 : decode cX8_foundBy 38 = .ok (.iaload, 1) := by decide +kernel
theorem dX8_foundBy_39 : decode cX8_foundBy 39 = .ok (.if_icmp .ne 7, 3) := by decide +kernel
theorem dX8_foundBy_42 : decode cX8_foundBy 42 = .ok (.iconst 2, 1) := by decide +kernel
theorem dX8_foundBy_43 : decode cX8_foundBy 43 = .ok (.goto 4, 3) := by decide +kernel
theorem dX8_foundBy_46 : decode cX8_foundBy 46 = .ok (.iconst 0, 1) := by decide +kernel
theorem dX8_foundBy_47 : decode cX8_foundBy 47 = .ok (.isub, 1) := by decide +kernel
theorem dX8_foundBy_48 : decode cX8_foundBy 48 = .ok (.istore 5, 2) := by decide +kernel
theorem dX8_foundBy_50 : decode cX8_foundBy 50 = .ok (.iload 5, 2) := by decide +kernel
theorem dX8_foundBy_52 : decode cX8_foundBy 52 = .ok (.iload_n 2, 1) := by decide +kernel
theorem dX8_foundBy_53 : decode cX8_foundBy 53 = .ok (.if_icmp .lt 12, 3) := by decide +kernel
theorem dX8_foundBy_56 : decode cX8_foundBy 56 = .ok (.aload_n 0, 1) := by decide +kernel
theorem dX8_foundBy_57 : decode cX8_foundBy 57 = .ok (.bipush 35, 2) := by decide +kernel
theorem dX8_foundBy_59 : decode cX8_foundBy 59 = .ok (.iload_n 3, 1) := by decide +kernel
theorem dX8_foundBy_60 : decode cX8_foundBy 60 = .ok (.iadd, 1) := by decide +kernel
theorem dX8_foundBy_61 : decode cX8_foundBy 61 = .ok (.iaload, 1) := by decide +kernel
theorem dX8_foundBy_62 : decode cX8_foundBy 62 = .ok (.goto 9, 3) := by decide +kernel
theorem dX8_foundBy_65 : decode cX8_foundBy 65 = .ok (.aload_n 0, 1) := by decide +kernel
theorem dX8_foundBy_66 : decode cX8_foundBy 66 = .ok (.bipush 47, 2) := by decide +kernel
theorem dX8_foundBy_68 : decode cX8_foundBy 68 = .ok (.iload_n 3, 1) := by decide +kernel
theorem dX8_foundBy_69 : decode cX8_foundBy 69 = .ok (.iadd, 1) := by decide +kernel
theorem dX8_foundBy_70 : decode cX8_foundBy 70 = .ok (.iaload, 1) := by decide +kernel
theorem dX8_foundBy_71 : decode cX8_foundBy 71 = .ok (.ireturn, 1) := by decide +kernel
set_option maxRecDepth 20000 in
theorem ggX8_party_X8_isParty : GoodIn wsX8_party wsX8_isParty := goodIn_r _ [6, 1, 7, 8, 5, 9, 16, 17, 18, 19, 20, 21, 22, 23, 24, 25, 26, 27, 28, 29, 30, 31, 32, 33, 34, 35, 36, 37] (by decide +kernel) (by decide +kernel)
set_option maxRecDepth 20000 in
theorem gX8_party_X8_isParty : GoodIn wsX8_party (wsV RX8 110 RX8 yX8_isParty wsX8_isParty) := goodIn_app (goodIn_of _ (by decide +kernel)) ggX8_party_X8_isParty
set_option maxRecDepth 20000 in
theorem ggX8_party_X8_namedBy : GoodIn wsX8_party wsX8_namedBy := goodIn_r _ [12, 13, 14, 5, 15] (by decide +kernel) (by decide +kernel)
set_option maxRecDepth 20000 in
theorem gX8_party_X8_namedBy : GoodIn wsX8_party (va_wsS RX8 113 yX8_namedBy wsX8_namedBy) := goodIn_app (goodIn_of _ (by decide +kernel)) ggX8_party_X8_namedBy
theorem dX8_party_0 : decode cX8_party 0 = .ok (.aload_n 0, 1) := by decide +kernel
theorem dX8_party_1 : decode cX8_party 1 = .ok (.iload_n 1, 1) := by decide +kernel
theorem dX8_party_2 : decode cX8_party 2 = .ok (.invokevirtual 110, 3) := by decide +kernel
theorem dX8_party_5 : decode cX8_party 5 = .ok (.ifCond .ne 5, 3) := by decide +kernel
theorem dX8_party_8 : decode cX8_party 8 = .ok (.iconst (-1), 1) := by decide +kernel
theorem dX8_party_9 : decode cX8_party 9 = .ok (.ireturn, 1) := by decide +kernel
theorem dX8_party_10 : decode cX8_party 10 = .ok (.iload_n 2, 1) := by decide +kernel
theorem dX8_party_11 : decode cX8_party 11 = .ok (.tableswitch 81 0 3 #[29, 38, 48, 58], 29) := by decide +kernel
theorem dX8_party_40 : decode cX8_party 40 = .ok (.aload_n 0, 1) := by decide +kernel
theorem dX8_party_41 : decode cX8_party 41 = .ok (.getfield 23, 3) := by decide +kernel
theorem dX8_party_44 : decode cX8_party 44 = .ok (.iconst 5, 1) := by decide +kernel
theorem dX8_party_45 : decode cX8_party 45 = .ok (.iload_n 1, 1) := by decide +kernel
theorem dX8_party_46 : decode cX8_party 46 = .ok (.iadd, 1) := by decide +kernel
theorem dX8_party_47 : decode cX8_party 47 = .ok (.iaload, 1) := by decide +kernel
theorem dX8_party_48 : decode cX8_party 48 = .ok (.ireturn, 1) := by decide +kernel
theorem dX8_party_49 : decode cX8_party 49 = .ok (.aload_n 0, 1) := by decide +kernel
theorem dX8_party_50 : decode cX8_party 50 = .ok (.getfield 23, 3) := by decide +kernel
theorem dX8_party_53 : decode cX8_party 53 = .ok (.bipush 11, 2) := by decide +kernel
theorem dX8_party_55 : decode cX8_party 55 = .ok (.iload_n 1, 1) := by decide +kernel
theorem dX8_party_56 : decode cX8_party 56 = .ok (.iadd, 1) := by decide +kernel
theorem dX8_party_57 : decode cX8_party 57 = .ok (.iaload, 1) := by decide +kernel
theorem dX8_party_58 : decode cX8_party 58 = .ok (.ireturn, 1) := by decide +kernel
theorem dX8_party_59 : decode cX8_party 59 = .ok (.aload_n 0, 1) := by decide +kernel
theorem dX8_party_60 : decode cX8_party 60 = .ok (.getfield 23, 3) := by decide +kernel
theorem dX8_party_63 : decode cX8_party 63 = .ok (.bipush 17, 2) := by decide +kernel
theorem dX8_party_65 : decode cX8_party 65 = .ok (.iload_n 1, 1) := by decide +kernel
theorem dX8_party_66 : decode cX8_party 66 = .ok (.iadd, 1) := by decide +kernel
theorem dX8_party_67 : decode cX8_party 67 = .ok (.iaload, 1) := by decide +kernel
theorem dX8_party_68 : decode cX8_party 68 = .ok (.ireturn, 1) := by decide +kernel
theorem dX8_party_69 : decode cX8_party 69 = .ok (.aload_n 0, 1) := by decide +kernel
theorem dX8_party_70 : decode cX8_party 70 = .ok (.getfield 23, 3) := by decide +kernel
theorem dX8_party_73 : decode cX8_party 73 = .ok (.iload_n 1, 1) := by decide +kernel
theorem dX8_party_74 : decode cX8_party 74 = .ok (.aload_n 0, 1) := by decide +kernel
theorem dX8_party_75 : decode cX8_party 75 = .ok (.getfield 23, 3) := by decide +kernel
theorem dX8_party_78 : decode cX8_party 78 = .ok (.iconst 5, 1) := by decide +kernel
theorem dX8_party_79 : decode cX8_party 79 = .ok (.iload_n 1, 1) := by decide +kernel
theorem dX8_party_80 : decode cX8_party 80 = .ok (.iadd, 1) := by decide +kernel
theorem dX8_party_81 : decode cX8_party 81 = .ok (.iaload, 1) := by decide +kernel
theorem dX8_party_82 : decode cX8_party 82 = .ok (.aload_n 0, 1) := by decide +kernel
theorem dX8_party_83 : decode cX8_party 83 = .ok (.getfield 23, 3) := by decide +kernel
theorem dX8_party_86 : decode cX8_party 86 = .ok (.iconst 1, 1) := by decide +kernel
theorem dX8_party_87 : decode cX8_party 87 = .ok (.iaload, 1) := by decide +kernel
theorem dX8_party_88 : decode cX8_party 88 = .ok (.invokestatic 113, 3) := by decide +kernel
theorem dX8_party_91 : decode cX8_party 91 = .ok (.ireturn, 1) := by decide +kernel
theorem dX8_party_92 : decode cX8_party 92 = .ok (.iconst (-1), 1) := by decide +kernel
theorem dX8_party_93 : decode cX8_party 93 = .ok (.ireturn, 1) := by decide +kernel
set_option maxRecDepth 20000 in
theorem ggX8_as_X8_isParty : GoodIn wsX8_as wsX8_isParty := goodIn_r _ [6, 1, 7, 8, 5, 9, 10, 11, 12, 13, 14, 15, 16, 17, 18, 19, 20, 21, 22, 23, 24, 25, 26, 27, 28, 29, 30, 31] (by decide +kernel) (by decide +kernel)
set_option maxRecDepth 20000 in
theorem gX8_as_X8_isParty : GoodIn wsX8_as (wsV RX8 110 RX8 yX8_isParty wsX8_isParty) := goodIn_app (goodIn_of _ (by decide +kernel)) ggX8_as_X8_isParty
set_option maxRecDepth 20000 in
theorem ggX8_as_X8_in : GoodIn wsX8_as wsX8_in := goodIn_r _ [9] (by decide +kernel) (by decide +kernel)
set_option maxRecDepth 20000 in
theorem gX8_as_X8_in : GoodIn wsX8_as (va_wsS RX8 60 yX8_in wsX8_in) := goodIn_app (goodIn_of _ (by decide +kernel)) ggX8_as_X8_in
theorem dX8_as_0 : decode cX8_as 0 = .ok (.aload_n 0, 1) := by decide +kernel
theorem dX8_as_1 : decode cX8_as 1 = .ok (.iload_n 1, 1) := by decide +kernel
theorem dX8_as_2 : decode cX8_as 2 = .ok (.invokevirtual 110, 3) := by decide +kernel
theorem dX8_as_5 : decode cX8_as 5 = .ok (.ifCond .eq 12, 3) := by decide +kernel
theorem dX8_as_8 : decode cX8_as 8 = .ok (.iload_n 2, 1) := by decide +kernel
theorem dX8_as_9 : decode cX8_as 9 = .ok (.iconst 0, 1) := by decide +kernel
theorem dX8_as_10 : decode cX8_as 10 = .ok (.iconst 5, 1) := by decide +kernel
theorem dX8_as_11 : decode cX8_as 11 = .ok (.invokestatic 60, 3) := by decide +kernel
theorem dX8_as_14 : decode cX8_as 14 = .ok (.ifCond .ne 5, 3) := by decide +kernel
theorem dX8_as_17 : decode cX8_as 17 = .ok (.iconst (-1), 1) := by decide +kernel
theorem dX8_as_18 : decode cX8_as 18 = .ok (.ireturn, 1) := by decide +kernel
theorem dX8_as_19 : decode cX8_as 19 = .ok (.aload_n 0, 1) := by decide +kernel
theorem dX8_as_20 : decode cX8_as 20 = .ok (.getfield 23, 3) := by decide +kernel
theorem dX8_as_23 : decode cX8_as 23 = .ok (.iconst 5, 1) := by decide +kernel
theorem dX8_as_24 : decode cX8_as 24 = .ok (.iload_n 1, 1) := by decide +kernel
theorem dX8_as_25 : decode cX8_as 25 = .ok (.iadd, 1) := by decide +kernel
theorem dX8_as_26 : decode cX8_as 26 = .ok (.iaload, 1) := by decide +kernel
theorem dX8_as_27 : decode cX8_as 27 = .ok (.istore_n 3, 1) := by decide +kernel
theorem dX8_as_28 : decode cX8_as 28 = .ok (.iload_n 2, 1) := by decide +kernel
theorem dX8_as_29 : decode cX8_as 29 = .ok (.iconst 1, 1) := by decide +kernel
theorem dX8_as_30 : decode cX8_as 30 = .ok (.if_icmp .ne 12, 3) := by decide +kernel
theorem dX8_as_33 : decode cX8_as 33 = .ok (.iload_n 3, 1) := by decide +kernel
theorem dX8_as_34 : decode cX8_as 34 = .ok (.iconst 4, 1) := by decide +kernel
theorem dX8_as_35 : decode cX8_as 35 = .ok (.if_icmp .eq 7, 3) := by decide +kernel
theorem dX8_as_38 : decode cX8_as 38 = .ok (.iconst 1, 1) := by decide +kernel
theorem dX8_as_39 : decode cX8_as 39 = .ok (.goto 4, 3) := by decide +kernel
theorem dX8_as_42 : decode cX8_as 42 = .ok (.iconst 0, 1) := by decide +kernel
theorem dX8_as_43 : decode cX8_as 43 = .ok (.istore 4, 2) := by decide +kernel
theorem dX8_as_45 : decode cX8_as 45 = .ok (.iload_n 2, 1) := by decide +kernel
theorem dX8_as_46 : decode cX8_as 46 = .ok (.iconst 2, 1) := by decide +kernel
theorem dX8_as_47 : decode cX8_as 47 = .ok (.if_icmp .ne 12, 3) := by decide +kernel
theorem dX8_as_50 : decode cX8_as 50 = .ok (.iload_n 3, 1) := by decide +kernel
theorem dX8_as_51 : decode cX8_as 51 = .ok (.iconst 5, 1) := by decide +kernel
theorem dX8_as_52 : decode cX8_as 52 = .ok (.if_icmp .ne 7, 3) := by decide +kernel
theorem dX8_as_55 : decode cX8_as 55 = .ok (.iconst 1, 1) := by decide +kernel
theorem dX8_as_56 : decode cX8_as 56 = .ok (.goto 4, 3) := by decide +kernel
theorem dX8_as_59 : decode cX8_as 59 = .ok (.iconst 0, 1) := by decide +kernel
theorem dX8_as_60 : decode cX8_as 60 = .ok (.istore 5, 2) := by decide +kernel
theorem dX8_as_62 : decode cX8_as 62 = .ok (.iload_n 2, 1) := by decide +kernel
theorem dX8_as_63 : decode cX8_as 63 = .ok (.ifCond .eq 18, 3) := by decide +kernel
theorem dX8_as_66 : decode cX8_as 66 = .ok (.iload_n 2, 1) := by decide +kernel
theorem dX8_as_67 : decode cX8_as 67 = .ok (.iload_n 3, 1) := by decide +kernel
theorem dX8_as_68 : decode cX8_as 68 = .ok (.if_icmp .eq 13, 3) := by decide +kernel
theorem dX8_as_71 : decode cX8_as 71 = .ok (.iload 4, 2) := by decide +kernel
theorem dX8_as_73 : decode cX8_as 73 = .ok (.ifCond .ne 8, 3) := by decide +kernel
theorem dX8_as_76 : decode cX8_as 76 = .ok (.iload 5, 2) := by decide +kernel
theorem dX8_as_78 : decode cX8_as 78 = .ok (.ifCond .eq 7, 3) := by decide +kernel
theorem dX8_as_81 : decode cX8_as 81 = .ok (.iload_n 1, 1) := by decide +kernel
theorem dX8_as_82 : decode cX8_as 82 = .ok (.goto 5, 3) := by decide +kernel
theorem dX8_as_85 : decode cX8_as 85 = .ok (.bipush (-12), 2) := by decide +kernel
theorem dX8_as_87 : decode cX8_as 87 = .ok (.ireturn, 1) := by decide +kernel
set_option maxRecDepth 20000 in
theorem ggX8_judge_X8_isJudge : GoodIn wsX8_judge wsX8_isJudge := goodIn_r _ [6, 1, 7, 8, 5, 9, 10, 11, 12, 13, 14, 15, 16, 17, 18, 19, 20, 21, 22, 23, 24, 25, 26, 27, 28, 29, 30, 31] (by decide +kernel) (by decide +kernel)
set_option maxRecDepth 20000 in
theorem gX8_judge_X8_isJudge : GoodIn wsX8_judge (wsV RX8 116 RX8 yX8_isJudge wsX8_isJudge) := goodIn_app (goodIn_of _ (by decide +kernel)) ggX8_judge_X8_isJudge
theorem dX8_judge_0 : decode cX8_judge 0 = .ok (.aload_n 0, 1) := by decide +kernel
theorem dX8_judge_1 : decode cX8_judge 1 = .ok (.iload_n 1, 1) := by decide +kernel
theorem dX8_judge_2 : decode cX8_judge 2 = .ok (.invokevirtual 116, 3) := by decide +kernel
theorem dX8_judge_5 : decode cX8_judge 5 = .ok (.ifCond .ne 5, 3) := by decide +kernel
theorem dX8_judge_8 : decode cX8_judge 8 = .ok (.iconst (-1), 1) := by decide +kernel
theorem dX8_judge_9 : decode cX8_judge 9 = .ok (.ireturn, 1) := by decide +kernel
theorem dX8_judge_10 : decode cX8_judge 10 = .ok (.iload_n 2, 1) := by decide +kernel
theorem dX8_judge_11 : decode cX8_judge 11 = .ok (.ifCond .ne 15, 3) := by decide +kernel
theorem dX8_judge_14 : decode cX8_judge 14 = .ok (.aload_n 0, 1) := by decide +kernel
theorem dX8_judge_15 : decode cX8_judge 15 = .ok (.getfield 23, 3) := by decide +kernel
theorem dX8_judge_18 : decode cX8_judge 18 = .ok (.bipush 23, 2) := by decide +kernel
theorem dX8_judge_20 : decode cX8_judge 20 = .ok (.iload_n 1, 1) := by decide +kernel
theorem dX8_judge_21 : decode cX8_judge 21 = .ok (.iadd, 1) := by decide +kernel
theorem dX8_judge_22 : decode cX8_judge 22 = .ok (.iaload, 1) := by decide +kernel
theorem dX8_judge_23 : decode cX8_judge 23 = .ok (.goto 44, 3) := by decide +kernel
theorem dX8_judge_26 : decode cX8_judge 26 = .ok (.iload_n 2, 1) := by decide +kernel
theorem dX8_judge_27 : decode cX8_judge 27 = .ok (.iconst 1, 1) := by decide +kernel
theorem dX8_judge_28 : decode cX8_judge 28 = .ok (.if_icmp .ne 15, 3) := by decide +kernel
theorem dX8_judge_31 : decode cX8_judge 31 = .ok (.aload_n 0, 1) := by decide +kernel
theorem dX8_judge_32 : decode cX8_judge 32 = .ok (.getfield 23, 3) := by decide +kernel
theorem dX8_judge_35 : decode cX8_judge 35 = .ok (.bipush 29, 2) := by decide +kernel
theorem dX8_judge_37 : decode cX8_judge 37 = .ok (.iload_n 1, 1) := by decide +kernel
theorem dX8_judge_38 : decode cX8_judge 38 = .ok (.iadd, 1) := by decide +kernel
theorem dX8_judge_39 : decode cX8_judge 39 = .ok (.iaload, 1) := by decide +kernel
theorem dX8_judge_40 : decode cX8_judge 40 = .ok (.goto 27, 3) := by decide +kernel
theorem dX8_judge_43 : decode cX8_judge 43 = .ok (.iload_n 2, 1) := by decide +kernel
theorem dX8_judge_44 : decode cX8_judge 44 = .ok (.iconst 2, 1) := by decide +kernel
theorem dX8_judge_45 : decode cX8_judge 45 = .ok (.if_icmp .ne 21, 3) := by decide +kernel
theorem dX8_judge_48 : decode cX8_judge 48 = .ok (.aload_n 0, 1) := by decide +kernel
theorem dX8_judge_49 : decode cX8_judge 49 = .ok (.getfield 23, 3) := by decide +kernel
theorem dX8_judge_52 : decode cX8_judge 52 = .ok (.iconst 1, 1) := by decide +kernel
theorem dX8_judge_53 : decode cX8_judge 53 = .ok (.iaload, 1) := by decide +kernel
theorem dX8_judge_54 : decode cX8_judge 54 = .ok (.iload_n 1, 1) := by decide +kernel
theorem dX8_judge_55 : decode cX8_judge 55 = .ok (.if_icmp .ne 7, 3) := by decide +kernel
theorem dX8_judge_58 : decode cX8_judge 58 = .ok (.iconst 1, 1) := by decide +kernel
theorem dX8_judge_59 : decode cX8_judge 59 = .ok (.goto 8, 3) := by decide +kernel
theorem dX8_judge_62 : decode cX8_judge 62 = .ok (.iconst 0, 1) := by decide +kernel
theorem dX8_judge_63 : decode cX8_judge 63 = .ok (.goto 4, 3) := by decide +kernel
theorem dX8_judge_66 : decode cX8_judge 66 = .ok (.iconst (-1), 1) := by decide +kernel
theorem dX8_judge_67 : decode cX8_judge 67 = .ok (.ireturn, 1) := by decide +kernel
set_option maxRecDepth 20000 in
theorem ggX8_trial_X8_isCase : GoodIn wsX8_trial wsX8_isCase := goodIn_r _ [6, 1, 7, 8, 5, 9, 10, 11, 12, 13, 14, 15, 16, 17, 18, 19, 20, 21, 22, 23, 24, 25, 26, 27, 28, 29, 30, 31] (by decide +kernel) (by decide +kernel)
set_option maxRecDepth 20000 in
theorem gX8_trial_X8_isCase : GoodIn wsX8_trial (wsV RX8 119 RX8 yX8_isCase wsX8_isCase) := goodIn_app (goodIn_of _ (by decide +kernel)) ggX8_trial_X8_isCase
theorem dX8_trial_0 : decode cX8_trial 0 = .ok (.aload_n 0, 1) := by decide +kernel
theorem dX8_trial_1 : decode cX8_trial 1 = .ok (.iload_n 1, 1) := by decide +kernel
theorem dX8_trial_2 : decode cX8_trial 2 = .ok (.invokevirtual 119, 3) := by decide +kernel
theorem dX8_trial_5 : decode cX8_trial 5 = .ok (.ifCond .ne 5, 3) := by decide +kernel
theorem dX8_trial_8 : decode cX8_trial 8 = .ok (.iconst (-1), 1) := by decide +kernel
theorem dX8_trial_9 : decode cX8_trial 9 = .ok (.ireturn, 1) := by decide +kernel
theorem dX8_trial_10 : decode cX8_trial 10 = .ok (.iload_n 2, 1) := by decide +kernel
theorem dX8_trial_11 : decode cX8_trial 11 = .ok (.tableswitch 69 0 3 #[29, 39, 49, 59], 29) := by decide +kernel
theorem dX8_trial_40 : decode cX8_trial 40 = .ok (.aload_n 0, 1) := by decide +kernel
theorem dX8_trial_41 : decode cX8_trial 41 = .ok (.getfield 23, 3) := by decide +kernel
theorem dX8_trial_44 : decode cX8_trial 44 = .ok (.bipush 35, 2) := by decide +kernel
theorem dX8_trial_46 : decode cX8_trial 46 = .ok (.iload_n 1, 1) := by decide +kernel
theorem dX8_trial_47 : decode cX8_trial 47 = .ok (.iadd, 1) := by decide +kernel
theorem dX8_trial_48 : decode cX8_trial 48 = .ok (.iaload, 1) := by decide +kernel
theorem dX8_trial_49 : decode cX8_trial 49 = .ok (.ireturn, 1) := by decide +kernel
theorem dX8_trial_50 : decode cX8_trial 50 = .ok (.aload_n 0, 1) := by decide +kernel
theorem dX8_trial_51 : decode cX8_trial 51 = .ok (.getfield 23, 3) := by decide +kernel
theorem dX8_trial_54 : decode cX8_trial 54 = .ok (.bipush 47, 2) := by decide +kernel
theorem dX8_trial_56 : decode cX8_trial 56 = .ok (.iload_n 1, 1) := by decide +kernel
theorem dX8_trial_57 : decode cX8_trial 57 = .ok (.iadd, 1) := by decide +kernel
theorem dX8_trial_58 : decode cX8_trial 58 = .ok (.iaload, 1) := by decide +kernel
theorem dX8_trial_59 : decode cX8_trial 59 = .ok (.ireturn, 1) := by decide +kernel
theorem dX8_trial_60 : decode cX8_trial 60 = .ok (.aload_n 0, 1) := by decide +kernel
theorem dX8_trial_61 : decode cX8_trial 61 = .ok (.getfield 23, 3) := by decide +kernel
theorem dX8_trial_64 : decode cX8_trial 64 = .ok (.bipush 59, 2) := by decide +kernel
theorem dX8_trial_66 : decode cX8_trial 66 = .ok (.iload_n 1, 1) := by decide +kernel
theorem dX8_trial_67 : decode cX8_trial 67 = .ok (.iadd, 1) := by decide +kernel
theorem dX8_trial_68 : decode cX8_trial 68 = .ok (.iaload, 1) := by decide +kernel
theorem dX8_trial_69 : decode cX8_trial 69 = .ok (.ireturn, 1) := by decide +kernel
theorem dX8_trial_70 : decode cX8_trial 70 = .ok (.aload_n 0, 1) := by decide +kernel
theorem dX8_trial_71 : decode cX8_trial 71 = .ok (.getfield 23, 3) := by decide +kernel
theorem dX8_trial_74 : decode cX8_trial 74 = .ok (.bipush 71, 2) := by decide +kernel
theorem dX8_trial_76 : decode cX8_trial 76 = .ok (.iload_n 1, 1) := by decide +kernel
theorem dX8_trial_77 : decode cX8_trial 77 = .ok (.iadd, 1) := by decide +kernel
theorem dX8_trial_78 : decode cX8_trial 78 = .ok (.iaload, 1) := by decide +kernel
theorem dX8_trial_79 : decode cX8_trial 79 = .ok (.ireturn, 1) := by decide +kernel
theorem dX8_trial_80 : decode cX8_trial 80 = .ok (.iconst (-1), 1) := by decide +kernel
theorem dX8_trial_81 : decode cX8_trial 81 = .ok (.ireturn, 1) := by decide +kernel
set_option maxRecDepth 20000 in
theorem ggX8_finds_X8_isJudge : GoodIn wsX8_finds wsX8_isJudge := goodIn_r _ [6, 1, 7, 8, 5, 9, 17, 18, 19, 20, 21, 22, 23, 24, 25, 26, 27, 28, 29, 30, 31, 32, 33, 34, 35, 36, 37, 38] (by decide +kernel) (by decide +kernel)
set_option maxRecDepth 20000 in
theorem gX8_finds_X8_isJudge : GoodIn wsX8_finds (wsV RX8 116 RX8 yX8_isJudge wsX8_isJudge) := goodIn_app (goodIn_of _ (by decide +kernel)) ggX8_finds_X8_isJudge
set_option maxRecDepth 20000 in
theorem ggX8_finds_X8_isCase : GoodIn wsX8_finds wsX8_isCase := goodIn_r _ [13, 1, 7, 8, 5, 9, 17, 18, 19, 20, 21, 22, 23, 24, 25, 26, 27, 28, 29, 30, 31, 32, 33, 34, 35, 36, 37, 38] (by decide +kernel) (by decide +kernel)
set_option maxRecDepth 20000 in
theorem gX8_finds_X8_isCase : GoodIn wsX8_finds (wsV RX8 119 RX8 yX8_isCase wsX8_isCase) := goodIn_app (goodIn_of _ (by decide +kernel)) ggX8_finds_X8_isCase
set_option maxRecDepth 20000 in
theorem ggX8_finds_X8_foundBy : GoodIn wsX8_finds wsX8_foundBy := goodIn_r _ [16] (by decide +kernel) (by decide +kernel)
set_option maxRecDepth 20000 in
theorem gX8_finds_X8_foundBy : GoodIn wsX8_finds (va_wsS RX8 122 yX8_foundBy wsX8_foundBy) := goodIn_app (goodIn_of _ (by decide +kernel)) ggX8_finds_X8_foundBy
theorem dX8_finds_0 : decode cX8_finds 0 = .ok (.aload_n 0, 1) := by decide +kernel
theorem dX8_finds_1 : decode cX8_finds 1 = .ok (.iload_n 1, 1) := by decide +kernel
theorem dX8_finds_2 : decode cX8_finds 2 = .ok (.invokevirtual 116, 3) := by decide +kernel
theorem dX8_finds_5 : decode cX8_finds 5 = .ok (.ifCond .eq 32, 3) := by decide +kernel
theorem dX8_finds_8 : decode cX8_finds 8 = .ok (.aload_n 0, 1) := by decide +kernel
theorem dX8_finds_9 : decode cX8_finds 9 = .ok (.iload_n 2, 1) := by decide +kernel
theorem dX8_finds_10 : decode cX8_finds 10 = .ok (.invokevirtual 119, 3) := by decide +kernel
theorem dX8_finds_13 : decode cX8_finds 13 = .ok (.ifCond .eq 24, 3) := by decide +kernel
theorem dX8_finds_16 : decode cX8_finds 16 = .ok (.aload_n 0, 1) := by decide +kernel
theorem dX8_finds_17 : decode cX8_finds 17 = .ok (.getfield 23, 3) := by decide +kernel
theorem dX8_finds_20 : decode cX8_finds 20 = .ok (.iload_n 1, 1) := by decide +kernel
theorem dX8_finds_21 : decode cX8_finds 21 = .ok (.aload_n 0, 1) := by decide +kernel
theorem dX8_finds_22 : decode cX8_finds 22 = .ok (.getfield 23, 3) := by decide +kernel
theorem dX8_finds_25 : decode cX8_finds 25 = .ok (.bipush 23, 2) := by decide +kernel
theorem dX8_finds_27 : decode cX8_finds 27 = .ok (.iload_n 1, 1) := by decide +kernel
theorem dX8_finds_28 : decode cX8_finds 28 = .ok (.iadd, 1) := by decide +kernel
theorem dX8_finds_29 : decode cX8_finds 29 = .ok (.iaload, 1) := by decide +kernel
theorem dX8_finds_30 : decode cX8_finds 30 = .ok (.iload_n 2, 1) := by decide +kernel
theorem dX8_finds_31 : decode cX8_finds 31 = .ok (.invokestatic 122, 3) := by decide +kernel
theorem dX8_finds_34 : decode cX8_finds 34 = .ok (.goto 4, 3) := by decide +kernel
theorem dX8_finds_37 : decode cX8_finds 37 = .ok (.iconst (-1), 1) := by decide +kernel
theorem dX8_finds_38 : decode cX8_finds 38 = .ok (.ireturn, 1) := by decide +kernel
set_option maxRecDepth 20000 in
theorem ggX8_names_X8_isParty : GoodIn wsX8_names wsX8_isParty := goodIn_r _ [6, 1, 7, 8, 5, 9, 20, 21, 22, 23, 24, 25, 26, 27, 28, 29, 30, 31, 32, 33, 34, 35, 36, 37, 38, 39, 40, 41] (by decide +kernel) (by decide +kernel)
set_option maxRecDepth 20000 in
theorem gX8_names_X8_isParty : GoodIn wsX8_names (wsV RX8 110 RX8 yX8_isParty wsX8_isParty) := goodIn_app (goodIn_of _ (by decide +kernel)) ggX8_names_X8_isParty
set_option maxRecDepth 20000 in
theorem ggX8_names_X8_isJudge : GoodIn wsX8_names wsX8_isJudge := goodIn_r _ [13, 1, 7, 8, 5, 9, 20, 21, 22, 23, 24, 25, 26, 27, 28, 29, 30, 31, 32, 33, 34, 35, 36, 37, 38, 39, 40, 41] (by decide +kernel) (by decide +kernel)
set_option maxRecDepth 20000 in
theorem gX8_names_X8_isJudge : GoodIn wsX8_names (wsV RX8 116 RX8 yX8_isJudge wsX8_isJudge) := goodIn_app (goodIn_of _ (by decide +kernel)) ggX8_names_X8_isJudge
set_option maxRecDepth 20000 in
theorem ggX8_names_X8_namedBy : GoodIn wsX8_names wsX8_namedBy := goodIn_r _ [16, 17, 18, 5, 19] (by decide +kernel) (by decide +kernel)
set_option maxRecDepth 20000 in
theorem gX8_names_X8_namedBy : GoodIn wsX8_names (va_wsS RX8 113 yX8_namedBy wsX8_namedBy) := goodIn_app (goodIn_of _ (by decide +kernel)) ggX8_names_X8_namedBy
theorem dX8_names_0 : decode cX8_names 0 = .ok (.aload_n 0, 1) := by decide +kernel
theorem dX8_names_1 : decode cX8_names 1 = .ok (.iload_n 1, 1) := by decide +kernel
theorem dX8_names_2 : decode cX8_names 2 = .ok (.invokevirtual 110, 3) := by decide +kernel
theorem dX8_names_5 : decode cX8_names 5 = .ok (.ifCond .eq 31, 3) := by decide +kernel
theorem dX8_names_8 : decode cX8_names 8 = .ok (.aload_n 0, 1) := by decide +kernel
theorem dX8_names_9 : decode cX8_names 9 = .ok (.iload_n 2, 1) := by decide +kernel
theorem dX8_names_10 : decode cX8_names 10 = .ok (.invokevirtual 116, 3) := by decide +kernel
theorem dX8_names_13 : decode cX8_names 13 = .ok (.ifCond .eq 23, 3) := by decide +kernel
theorem dX8_names_16 : decode cX8_names 16 = .ok (.aload_n 0, 1) := by decide +kernel
theorem dX8_names_17 : decode cX8_names 17 = .ok (.getfield 23, 3) := by decide +kernel
theorem dX8_names_20 : decode cX8_names 20 = .ok (.iload_n 1, 1) := by decide +kernel
theorem dX8_names_21 : decode cX8_names 21 = .ok (.aload_n 0, 1) := by decide +kernel
theorem dX8_names_22 : decode cX8_names 22 = .ok (.getfield 23, 3) := by decide +kernel
theorem dX8_names_25 : decode cX8_names 25 = .ok (.iconst 5, 1) := by decide +kernel
theorem dX8_names_26 : decode cX8_names 26 = .ok (.iload_n 1, 1) := by decide +kernel
theorem dX8_names_27 : decode cX8_names 27 = .ok (.iadd, 1) := by decide +kernel
theorem dX8_names_28 : decode cX8_names 28 = .ok (.iaload, 1) := by decide +kernel
theorem dX8_names_29 : decode cX8_names 29 = .ok (.iload_n 2, 1) := by decide +kernel
theorem dX8_names_30 : decode cX8_names 30 = .ok (.invokestatic 113, 3) := by decide +kernel
theorem dX8_names_33 : decode cX8_names 33 = .ok (.goto 4, 3) := by decide +kernel
theorem dX8_names_36 : decode cX8_names 36 = .ok (.iconst (-1), 1) := by decide +kernel
theorem dX8_names_37 : decode cX8_names 37 = .ok (.ireturn, 1) := by decide +kernel
set_option maxRecDepth 20000 in
theorem ggX8_note_X8_bring : GoodIn wsX8_note wsX8_bring := goodIn_r _ [7] (by decide +kernel) (by decide +kernel)
set_option maxRecDepth 20000 in
theorem gX8_note_X8_bring : GoodIn wsX8_note (va_wsS RX8 99 yX8_bring wsX8_bring) := goodIn_app (goodIn_of _ (by decide +kernel)) ggX8_note_X8_bring
theorem dX8_note_0 : decode cX8_note 0 = .ok (.aload_n 0, 1) := by decide +kernel
theorem dX8_note_1 : decode cX8_note 1 = .ok (.getfield 103, 3) := by decide +kernel
theorem dX8_note_4 : decode cX8_note 4 = .ok (.bipush 24, 2) := by decide +kernel
theorem dX8_note_6 : decode cX8_note 6 = .ok (.if_icmp .ne 30, 3) := by decide +kernel
theorem dX8_note_9 : decode cX8_note 9 = .ok (.aload_n 0, 1) := by decide +kernel
theorem dX8_note_10 : decode cX8_note 10 = .ok (.getfield 39, 3) := by decide +kernel
theorem dX8_note_13 : decode cX8_note 13 = .ok (.bipush 83, 2) := by decide +kernel
theorem dX8_note_15 : decode cX8_note 15 = .ok (.aload_n 0, 1) := by decide +kernel
theorem dX8_note_16 : decode cX8_note 16 = .ok (.getfield 39, 3) := by decide +kernel
theorem dX8_note_19 : decode cX8_note 19 = .ok (.iconst 0, 1) := by decide +kernel
theorem dX8_note_20 : decode cX8_note 20 = .ok (.sipush 1909, 3) := by decide +kernel
theorem dX8_note_23 : decode cX8_note 23 = .ok (.invokestatic 99, 3) := by decide +kernel
theorem dX8_note_26 : decode cX8_note 26 = .ok (.aload_n 0, 1) := by decide +kernel
theorem dX8_note_27 : decode cX8_note 27 = .ok (.dup, 1) := by decide +kernel
theorem dX8_note_28 : decode cX8_note 28 = .ok (.getfield 103, 3) := by decide +kernel
theorem dX8_note_31 : decode cX8_note 31 = .ok (.iconst 1, 1) := by decide +kernel
theorem dX8_note_32 : decode cX8_note 32 = .ok (.isub, 1) := by decide +kernel
theorem dX8_note_33 : decode cX8_note 33 = .ok (.putfield 103, 3) := by decide +kernel
theorem dX8_note_36 : decode cX8_note 36 = .ok (.aload_n 0, 1) := by decide +kernel
theorem dX8_note_37 : decode cX8_note 37 = .ok (.getfield 23, 3) := by decide +kernel
theorem dX8_note_40 : decode cX8_note 40 = .ok (.iconst 0, 1) := by decide +kernel
theorem dX8_note_41 : decode cX8_note 41 = .ok (.aload_n 0, 1) := by decide +kernel
theorem dX8_note_42 : decode cX8_note 42 = .ok (.getfield 39, 3) := by decide +kernel
theorem dX8_note_45 : decode cX8_note 45 = .ok (.bipush 83, 2) := by decide +kernel
theorem dX8_note_47 : decode cX8_note 47 = .ok (.aload_n 0, 1) := by decide +kernel
theorem dX8_note_48 : decode cX8_note 48 = .ok (.getfield 103, 3) := by decide +kernel
theorem dX8_note_51 : decode cX8_note 51 = .ok (.imul, 1) := by decide +kernel
theorem dX8_note_52 : decode cX8_note 52 = .ok (.bipush 83, 2) := by decide +kernel
theorem dX8_note_54 : decode cX8_note 54 = .ok (.invokestatic 99, 3) := by decide +kernel
theorem dX8_note_57 : decode cX8_note 57 = .ok (.aload_n 0, 1) := by decide +kernel
theorem dX8_note_58 : decode cX8_note 58 = .ok (.dup, 1) := by decide +kernel
theorem dX8_note_59 : decode cX8_note 59 = .ok (.getfield 103, 3) := by decide +kernel
theorem dX8_note_62 : decode cX8_note 62 = .ok (.iconst 1, 1) := by decide +kernel
theorem dX8_note_63 : decode cX8_note 63 = .ok (.iadd, 1) := by decide +kernel
theorem dX8_note_64 : decode cX8_note 64 = .ok (.putfield 103, 3) := by decide +kernel
theorem dX8_note_67 : decode cX8_note 67 = .ok (.return_, 1) := by decide +kernel
set_option maxRecDepth 20000 in
theorem ggX8_ends_X8_hurts : GoodIn wsX8_ends wsX8_hurts := goodIn_r _ [4] (by decide +kernel) (by decide +kernel)
set_option maxRecDepth 20000 in
theorem gX8_ends_X8_hurts : GoodIn wsX8_ends (va_wsS RX8 125 yX8_hurts wsX8_hurts) := goodIn_app (goodIn_of _ (by decide +kernel)) ggX8_ends_X8_hurts
set_option maxRecDepth 20000 in
theorem ggX8_ends_X8_namedBy : GoodIn wsX8_ends wsX8_namedBy := goodIn_r _ [7, 8, 9, 3, 10] (by decide +kernel) (by decide +kernel)
set_option maxRecDepth 20000 in
theorem gX8_ends_X8_namedBy : GoodIn wsX8_ends (va_wsS RX8 113 yX8_namedBy wsX8_namedBy) := goodIn_app (goodIn_of _ (by decide +kernel)) ggX8_ends_X8_namedBy
theorem dX8_ends_0 : decode cX8_ends 0 = .ok (.iload_n 2, 1) := by decide +kernel
theorem dX8_ends_1 : decode cX8_ends 1 = .ok (.aload_n 0, 1) := by decide +kernel
theorem dX8_ends_2 : decode cX8_ends 2 = .ok (.bipush 35, 2) := by decide +kernel
theorem dX8_ends_4 : decode cX8_ends 4 = .ok (.iload_n 1, 1) := by decide +kernel
theorem dX8_ends_5 : decode cX8_ends 5 = .ok (.iadd, 1) := by decide +kernel
theorem dX8_ends_6 : decode cX8_ends 6 = .ok (.iaload, 1) := by decide +kernel
theorem dX8_ends_7 : decode cX8_ends 7 = .ok (.if_icmp .ne 12, 3) := by decide +kernel
theorem dX8_ends_10 : decode cX8_ends 10 = .ok (.aload_n 0, 1) := by decide +kernel
theorem dX8_ends_11 : decode cX8_ends 11 = .ok (.bipush 47, 2) := by decide +kernel
theorem dX8_ends_13 : decode cX8_ends 13 = .ok (.iload_n 1, 1) := by decide +kernel
theorem dX8_ends_14 : decode cX8_ends 14 = .ok (.iadd, 1) := by decide +kernel
theorem dX8_ends_15 : decode cX8_ends 15 = .ok (.iaload, 1) := by decide +kernel
theorem dX8_ends_16 : decode cX8_ends 16 = .ok (.goto 9, 3) := by decide +kernel
theorem dX8_ends_19 : decode cX8_ends 19 = .ok (.aload_n 0, 1) := by decide +kernel
theorem dX8_ends_20 : decode cX8_ends 20 = .ok (.bipush 35, 2) := by decide +kernel
theorem dX8_ends_22 : decode cX8_ends 22 = .ok (.iload_n 1, 1) := by decide +kernel
theorem dX8_ends_23 : decode cX8_ends 23 = .ok (.iadd, 1) := by decide +kernel
theorem dX8_ends_24 : decode cX8_ends 24 = .ok (.iaload, 1) := by decide +kernel
theorem dX8_ends_25 : decode cX8_ends 25 = .ok (.istore_n 3, 1) := by decide +kernel
theorem dX8_ends_26 : decode cX8_ends 26 = .ok (.aload_n 0, 1) := by decide +kernel
theorem dX8_ends_27 : decode cX8_ends 27 = .ok (.bipush 17, 2) := by decide +kernel
theorem dX8_ends_29 : decode cX8_ends 29 = .ok (.iload_n 2, 1) := by decide +kernel
theorem dX8_ends_30 : decode cX8_ends 30 = .ok (.iadd, 1) := by decide +kernel
theorem dX8_ends_31 : decode cX8_ends 31 = .ok (.dup2, 1) := by decide +kernel
theorem dX8_ends_32 : decode cX8_ends 32 = .ok (.iaload, 1) := by decide +kernel
theorem dX8_ends_33 : decode cX8_ends 33 = .ok (.iconst 1, 1) := by decide +kernel
theorem dX8_ends_34 : decode cX8_ends 34 = .ok (.iadd, 1) := by decide +kernel
theorem dX8_ends_35 : decode cX8_ends 35 = .ok (.iastore, 1) := by decide +kernel
theorem dX8_ends_36 : decode cX8_ends 36 = .ok (.aload_n 0, 1) := by decide +kernel
theorem dX8_ends_37 : decode cX8_ends 37 = .ok (.bipush 11, 2) := by decide +kernel
theorem dX8_ends_39 : decode cX8_ends 39 = .ok (.iload_n 2, 1) := by decide +kernel
theorem dX8_ends_40 : decode cX8_ends 40 = .ok (.iadd, 1) := by decide +kernel
theorem dX8_ends_41 : decode cX8_ends 41 = .ok (.dup2, 1) := by decide +kernel
theorem dX8_ends_42 : decode cX8_ends 42 = .ok (.iaload, 1) := by decide +kernel
theorem dX8_ends_43 : decode cX8_ends 43 = .ok (.aload_n 0, 1) := by decide +kernel
theorem dX8_ends_44 : decode cX8_ends 44 = .ok (.bipush 11, 2) := by decide +kernel
theorem dX8_ends_46 : decode cX8_ends 46 = .ok (.iload_n 2, 1) := by decide +kernel
theorem dX8_ends_47 : decode cX8_ends 47 = .ok (.iadd, 1) := by decide +kernel
theorem dX8_ends_48 : decode cX8_ends 48 = .ok (.iaload, 1) := by decide +kernel
theorem dX8_ends_49 : decode cX8_ends 49 = .ok (.ifCond .le 7, 3) := by decide +kernel
theorem dX8_ends_52 : decode cX8_ends 52 = .ok (.iconst 1, 1) := by decide +kernel
theorem dX8_ends_53 : decode cX8_ends 53 = .ok (.goto 4, 3) := by decide +kernel
theorem dX8_ends_56 : decode cX8_ends 56 = .ok (.iconst 0, 1) := by decide +kernel
theorem dX8_ends_57 : decode cX8_ends 57 = .ok (.isub, 1) := by decide +kernel
theorem dX8_ends_58 : decode cX8_ends 58 = .ok (.iastore, 1) := by decide +kernel
theorem dX8_ends_59 : decode cX8_ends 59 = .ok (.aload_n 0, 1) := by decide +kernel
theorem dX8_ends_60 : decode cX8_ends 60 = .ok (.bipush 11, 2) := by decide +kernel
theorem dX8_ends_62 : decode cX8_ends 62 = .ok (.iload_n 3, 1) := by decide +kernel
theorem dX8_ends_63 : decode cX8_ends 63 = .ok (.iadd, 1) := by decide +kernel
theorem dX8_ends_64 : decode cX8_ends 64 = .ok (.iaload, 1) := by decide +kernel
theorem dX8_ends_65 : decode cX8_ends 65 = .ok (.aload_n 0, 1) := by decide +kernel
theorem dX8_ends_66 : decode cX8_ends 66 = .ok (.iconst 5, 1) := by decide +kernel
theorem dX8_ends_67 : decode cX8_ends 67 = .ok (.iload_n 3, 1) := by decide +kernel
theorem dX8_ends_68 : decode cX8_ends 68 = .ok (.iadd, 1) := by decide +kernel
theorem dX8_ends_69 : decode cX8_ends 69 = .ok (.iaload, 1) := by decide +kernel
theorem dX8_ends_70 : decode cX8_ends 70 = .ok (.aload_n 0, 1) := by decide +kernel
theorem dX8_ends_71 : decode cX8_ends 71 = .ok (.bipush 59, 2) := by decide +kernel
theorem dX8_ends_73 : decode cX8_ends 73 = .ok (.iload_n 1, 1) := by decide +kernel
theorem dX8_ends_74 : decode cX8_ends 74 = .ok (.iadd, 1) := by decide +kernel
theorem dX8_ends_75 : decode cX8_ends 75 = .ok (.iaload, 1) := by decide +kernel
theorem dX8_ends_76 : decode cX8_ends 76 = .ok (.invokestatic 125, 3) := by decide +kernel
theorem dX8_ends_79 : decode cX8_ends 79 = .ok (.iadd, 1) := by decide +kernel
theorem dX8_ends_80 : decode cX8_ends 80 = .ok (.istore 4, 2) := by decide +kernel
theorem dX8_ends_82 : decode cX8_ends 82 = .ok (.aload_n 0, 1) := by decide +kernel
theorem dX8_ends_83 : decode cX8_ends 83 = .ok (.bipush 11, 2) := by decide +kernel
theorem dX8_ends_85 : decode cX8_ends 85 = .ok (.iload_n 3, 1) := by decide +kernel
theorem dX8_ends_86 : decode cX8_ends 86 = .ok (.iadd, 1) := by decide +kernel
theorem dX8_ends_87 : decode cX8_ends 87 = .ok (.iload 4, 2) := by decide +kernel
theorem dX8_ends_89 : decode cX8_ends 89 = .ok (.bipush 20, 2) := by decide +kernel
theorem dX8_ends_91 : decode cX8_ends 91 = .ok (.if_icmp .le 8, 3) := by decide +kernel
theorem dX8_ends_94 : decode cX8_ends 94 = .ok (.bipush 20, 2) := by decide +kernel
theorem dX8_ends_96 : decode cX8_ends 96 = .ok (.goto 5, 3) := by decide +kernel
theorem dX8_ends_99 : decode cX8_ends 99 = .ok (.iload 4, 2) := by decide +kernel
theorem dX8_ends_101 : decode cX8_ends 101 = .ok (.iastore, 1) := by decide +kernel
theorem dX8_ends_102 : decode cX8_ends 102 = .ok (.aload_n 0, 1) := by decide +kernel
theorem dX8_ends_103 : decode cX8_ends 103 = .ok (.iconst 1, 1) := by decide +kernel
theorem dX8_ends_104 : decode cX8_ends 104 = .ok (.aload_n 0, 1) := by decide +kernel
theorem dX8_ends_105 : decode cX8_ends 105 = .ok (.iload_n 3, 1) := by decide +kernel
theorem dX8_ends_106 : decode cX8_ends 106 = .ok (.aload_n 0, 1) := by decide +kernel
theorem dX8_ends_107 : decode cX8_ends 107 = .ok (.iconst 5, 1) := by decide +kernel
theorem dX8_ends_108 : decode cX8_ends 108 = .ok (.iload_n 3, 1) := by decide +kernel
theorem dX8_ends_109 : decode cX8_ends 109 = .ok (.iadd, 1) := by decide +kernel
theorem dX8_ends_110 : decode cX8_ends 110 = .ok (.iaload, 1) := by decide +kernel
theorem dX8_ends_111 : decode cX8_ends 111 = .ok (.aload_n 0, 1) := by decide +kernel
theorem dX8_ends_112 : decode cX8_ends 112 = .ok (.iconst 1, 1) := by decide +kernel
theorem dX8_ends_113 : decode cX8_ends 113 = .ok (.iaload, 1) := by decide +kernel
theorem dX8_ends_114 : decode cX8_ends 114 = .ok (.invokestatic 113, 3) := by decide +kernel
theorem dX8_ends_117 : decode cX8_ends 117 = .ok (.iastore, 1) := by decide +kernel
theorem dX8_ends_118 : decode cX8_ends 118 = .ok (.aload_n 0, 1) := by decide +kernel
theorem dX8_ends_119 : decode cX8_ends 119 = .ok (.bipush 71, 2) := by decide +kernel
theorem dX8_ends_121 : decode cX8_ends 121 = .ok (.iload_n 1, 1) := by decide +kernel
theorem dX8_ends_122 : decode cX8_ends 122 = .ok (.iadd, 1) := by decide +kernel
theorem dX8_ends_123 : decode cX8_ends 123 = .ok (.iload_n 2, 1) := by decide +kernel
theorem dX8_ends_124 : decode cX8_ends 124 = .ok (.iastore, 1) := by decide +kernel
theorem dX8_ends_125 : decode cX8_ends 125 = .ok (.return_, 1) := by decide +kernel
theorem dX8_otherOf_0 : decode cX8_otherOf 0 = .ok (.iload_n 2, 1) := by decide +kernel
theorem dX8_otherOf_1 : decode cX8_otherOf 1 = .ok (.aload_n 0, 1) := by decide +kernel
theorem dX8_otherOf_2 : decode cX8_otherOf 2 = .ok (.bipush 35, 2) := by decide +kernel
theorem dX8_otherOf_4 : decode cX8_otherOf 4 = .ok (.iload_n 1, 1) := by decide +kernel
theorem dX8_otherOf_5 : decode cX8_otherOf 5 = .ok (.iadd, 1) := by decide +kernel
theorem dX8_otherOf_6 : decode cX8_otherOf 6 = .ok (.iaload, 1) := by decide +kernel
theorem dX8_otherOf_7 : decode cX8_otherOf 7 = .ok (.if_icmp .ne 12, 3) := by decide +kernel
theorem dX8_otherOf_10 : decode cX8_otherOf 10 = .ok (.aload_n 0, 1) := by decide +kernel
theorem dX8_otherOf_11 : decode cX8_otherOf 11 = .ok (.bipush 47, 2) := by decide +kernel
theorem dX8_otherOf_13 : decode cX8_otherOf 13 = .ok (.iload_n 1, 1) := by decide +kernel
theorem dX8_otherOf_14 : decode cX8_otherOf 14 = .ok (.iadd, 1) := by decide +kernel
theorem dX8_otherOf_15 : decode cX8_otherOf 15 = .ok (.iaload, 1) := by decide +kernel
theorem dX8_otherOf_16 : decode cX8_otherOf 16 = .ok (.goto 9, 3) := by decide +kernel
theorem dX8_otherOf_19 : decode cX8_otherOf 19 = .ok (.aload_n 0, 1) := by decide +kernel
theorem dX8_otherOf_20 : decode cX8_otherOf 20 = .ok (.bipush 35, 2) := by decide +kernel
theorem dX8_otherOf_22 : decode cX8_otherOf 22 = .ok (.iload_n 1, 1) := by decide +kernel
theorem dX8_otherOf_23 : decode cX8_otherOf 23 = .ok (.iadd, 1) := by decide +kernel
theorem dX8_otherOf_24 : decode cX8_otherOf 24 = .ok (.iaload, 1) := by decide +kernel
theorem dX8_otherOf_25 : decode cX8_otherOf 25 = .ok (.ireturn, 1) := by decide +kernel
set_option maxRecDepth 20000 in
theorem ggX8_hears_X8_otherOf : GoodIn wsX8_hears wsX8_otherOf := goodIn_r _ [4] (by decide +kernel) (by decide +kernel)
set_option maxRecDepth 20000 in
theorem gX8_hears_X8_otherOf : GoodIn wsX8_hears (va_wsS RX8 129 yX8_otherOf wsX8_otherOf) := goodIn_app (goodIn_of _ (by decide +kernel)) ggX8_hears_X8_otherOf
set_option maxRecDepth 20000 in
theorem ggX8_hears_X8_foundBy : GoodIn wsX8_hears wsX8_foundBy := goodIn_r _ [7] (by decide +kernel) (by decide +kernel)
set_option maxRecDepth 20000 in
theorem gX8_hears_X8_foundBy : GoodIn wsX8_hears (va_wsS RX8 122 yX8_foundBy wsX8_foundBy) := goodIn_app (goodIn_of _ (by decide +kernel)) ggX8_hears_X8_foundBy
set_option maxRecDepth 20000 in
theorem ggX8_hears_X8_ends : GoodIn wsX8_hears wsX8_ends := goodIn_r _ [10, 11, 12, 3, 13, 14, 15, 16, 17, 18, 19] (by decide +kernel) (by decide +kernel)
set_option maxRecDepth 20000 in
theorem gX8_hears_X8_ends : GoodIn wsX8_hears (va_wsS RX8 133 yX8_ends wsX8_ends) := goodIn_app (goodIn_of _ (by decide +kernel)) ggX8_hears_X8_ends
theorem dX8_hears_0 : decode cX8_hears 0 = .ok (.aload_n 0, 1) := by decide +kernel
theorem dX8_hears_1 : decode cX8_hears 1 = .ok (.iconst 0, 1) := by decide +kernel
theorem dX8_hears_2 : decode cX8_hears 2 = .ok (.iaload, 1) := by decide +kernel
theorem dX8_hears_3 : decode cX8_hears 3 = .ok (.istore_n 2, 1) := by decide +kernel
theorem dX8_hears_4 : decode cX8_hears 4 = .ok (.iload_n 1, 1) := by decide +kernel
theorem dX8_hears_5 : decode cX8_hears 5 = .ok (.aload_n 0, 1) := by decide +kernel
theorem dX8_hears_6 : decode cX8_hears 6 = .ok (.bipush 35, 2) := by decide +kernel
theorem dX8_hears_8 : decode cX8_hears 8 = .ok (.iload_n 2, 1) := by decide +kernel
theorem dX8_hears_9 : decode cX8_hears 9 = .ok (.iadd, 1) := by decide +kernel
theorem dX8_hears_10 : decode cX8_hears 10 = .ok (.iaload, 1) := by decide +kernel
theorem dX8_hears_11 : decode cX8_hears 11 = .ok (.if_icmp .eq 13, 3) := by decide +kernel
theorem dX8_hears_14 : decode cX8_hears 14 = .ok (.iload_n 1, 1) := by decide +kernel
theorem dX8_hears_15 : decode cX8_hears 15 = .ok (.aload_n 0, 1) := by decide +kernel
theorem dX8_hears_16 : decode cX8_hears 16 = .ok (.bipush 47, 2) := by decide +kernel
theorem dX8_hears_18 : decode cX8_hears 18 = .ok (.iload_n 2, 1) := by decide +kernel
theorem dX8_hears_19 : decode cX8_hears 19 = .ok (.iadd, 1) := by decide +kernel
theorem dX8_hears_20 : decode cX8_hears 20 = .ok (.iaload, 1) := by decide +kernel
theorem dX8_hears_21 : decode cX8_hears 21 = .ok (.if_icmp .ne 7, 3) := by decide +kernel
theorem dX8_hears_24 : decode cX8_hears 24 = .ok (.iconst 1, 1) := by decide +kernel
theorem dX8_hears_25 : decode cX8_hears 25 = .ok (.goto 4, 3) := by decide +kernel
theorem dX8_hears_28 : decode cX8_hears 28 = .ok (.iconst 0, 1) := by decide +kernel
theorem dX8_hears_29 : decode cX8_hears 29 = .ok (.istore_n 3, 1) := by decide +kernel
theorem dX8_hears_30 : decode cX8_hears 30 = .ok (.iload_n 3, 1) := by decide +kernel
theorem dX8_hears_31 : decode cX8_hears 31 = .ok (.ifCond .eq 12, 3) := by decide +kernel
theorem dX8_hears_34 : decode cX8_hears 34 = .ok (.aload_n 0, 1) := by decide +kernel
theorem dX8_hears_35 : decode cX8_hears 35 = .ok (.iload_n 2, 1) := by decide +kernel
theorem dX8_hears_36 : decode cX8_hears 36 = .ok (.iload_n 1, 1) := by decide +kernel
theorem dX8_hears_37 : decode cX8_hears 37 = .ok (.invokestatic 129, 3) := by decide +kernel
theorem dX8_hears_40 : decode cX8_hears 40 = .ok (.goto 19, 3) := by decide +kernel
theorem dX8_hears_43 : decode cX8_hears 43 = .ok (.aload_n 0, 1) := by decide +kernel
theorem dX8_hears_44 : decode cX8_hears 44 = .ok (.aload_n 0, 1) := by decide +kernel
theorem dX8_hears_45 : decode cX8_hears 45 = .ok (.iconst 1, 1) := by decide +kernel
theorem dX8_hears_46 : decode cX8_hears 46 = .ok (.iaload, 1) := by decide +kernel
theorem dX8_hears_47 : decode cX8_hears 47 = .ok (.aload_n 0, 1) := by decide +kernel
theorem dX8_hears_48 : decode cX8_hears 48 = .ok (.bipush 23, 2) := by decide +kernel
theorem dX8_hears_50 : decode cX8_hears 50 = .ok (.aload_n 0, 1) := by decide +kernel
theorem dX8_hears_51 : decode cX8_hears 51 = .ok (.iconst 1, 1) := by decide +kernel
theorem dX8_hears_52 : decode cX8_hears 52 = .ok (.iaload, 1) := by decide +kernel
theorem dX8_hears_53 : decode cX8_hears 53 = .ok (.iadd, 1) := by decide +kernel
theorem dX8_hears_54 : decode cX8_hears 54 = .ok (.iaload, 1) := by decide +kernel
theorem dX8_hears_55 : decode cX8_hears 55 = .ok (.iload_n 2, 1) := by decide +kernel
theorem dX8_hears_56 : decode cX8_hears 56 = .ok (.invokestatic 122, 3) := by decide +kernel
theorem dX8_hears_59 : decode cX8_hears 59 = .ok (.istore 4, 2) := by decide +kernel
theorem dX8_hears_61 : decode cX8_hears 61 = .ok (.aload_n 0, 1) := by decide +kernel
theorem dX8_hears_62 : decode cX8_hears 62 = .ok (.iload_n 2, 1) := by decide +kernel
theorem dX8_hears_63 : decode cX8_hears 63 = .ok (.iload 4, 2) := by decide +kernel
theorem dX8_hears_65 : decode cX8_hears 65 = .ok (.invokestatic 133, 3) := by decide +kernel
theorem dX8_hears_68 : decode cX8_hears 68 = .ok (.aload_n 0, 1) := by decide +kernel
theorem dX8_hears_69 : decode cX8_hears 69 = .ok (.iconst 0, 1) := by decide +kernel
theorem dX8_hears_70 : decode cX8_hears 70 = .ok (.dup2, 1) := by decide +kernel
theorem dX8_hears_71 : decode cX8_hears 71 = .ok (.iaload, 1) := by decide +kernel
theorem dX8_hears_72 : decode cX8_hears 72 = .ok (.iconst 1, 1) := by decide +kernel
theorem dX8_hears_73 : decode cX8_hears 73 = .ok (.iadd, 1) := by decide +kernel
theorem dX8_hears_74 : decode cX8_hears 74 = .ok (.iastore, 1) := by decide +kernel
theorem dX8_hears_75 : decode cX8_hears 75 = .ok (.iload 4, 2) := by decide +kernel
theorem dX8_hears_77 : decode cX8_hears 77 = .ok (.ireturn, 1) := by decide +kernel
theorem dX8_casesLeft_0 : decode cX8_casesLeft 0 = .ok (.aload_n 0, 1) := by decide +kernel
theorem dX8_casesLeft_1 : decode cX8_casesLeft 1 = .ok (.getfield 23, 3) := by decide +kernel
theorem dX8_casesLeft_4 : decode cX8_casesLeft 4 = .ok (.iconst 4, 1) := by decide +kernel
theorem dX8_casesLeft_5 : decode cX8_casesLeft 5 = .ok (.iaload, 1) := by decide +kernel
theorem dX8_casesLeft_6 : decode cX8_casesLeft 6 = .ok (.aload_n 0, 1) := by decide +kernel
theorem dX8_casesLeft_7 : decode cX8_casesLeft 7 = .ok (.getfield 23, 3) := by decide +kernel
theorem dX8_casesLeft_10 : decode cX8_casesLeft 10 = .ok (.iconst 0, 1) := by decide +kernel
theorem dX8_casesLeft_11 : decode cX8_casesLeft 11 = .ok (.iaload, 1) := by decide +kernel
theorem dX8_casesLeft_12 : decode cX8_casesLeft 12 = .ok (.isub, 1) := by decide +kernel
theorem dX8_casesLeft_13 : decode cX8_casesLeft 13 = .ok (.ireturn, 1) := by decide +kernel
set_option maxRecDepth 20000 in
theorem ggX8_hear_X8_in : GoodIn wsX8_hear wsX8_in := goodIn_r _ [5] (by decide +kernel) (by decide +kernel)
set_option maxRecDepth 20000 in
theorem gX8_hear_X8_in : GoodIn wsX8_hear (va_wsS RX8 60 yX8_in wsX8_in) := goodIn_app (goodIn_of _ (by decide +kernel)) ggX8_hear_X8_in
set_option maxRecDepth 20000 in
theorem ggX8_hear_X8_casesLeft : GoodIn wsX8_hear wsX8_casesLeft := goodIn_r _ [9, 1, 40, 41, 42, 43, 44, 45, 46, 47, 48, 49, 50, 51, 52, 53, 54, 55, 56, 57, 58, 59, 60, 61] (by decide +kernel) (by decide +kernel)
set_option maxRecDepth 20000 in
theorem gX8_hear_X8_casesLeft : GoodIn wsX8_hear (wsV RX8 137 RX8 yX8_casesLeft wsX8_casesLeft) := goodIn_app (goodIn_of _ (by decide +kernel)) ggX8_hear_X8_casesLeft
set_option maxRecDepth 20000 in
theorem ggX8_hear_X8_note : GoodIn wsX8_hear wsX8_note := goodIn_r _ [13, 14, 15, 1, 16, 17, 4, 18, 40, 41, 42, 43, 44, 45, 46, 47, 48, 49, 50, 51, 52, 53, 54, 55, 56, 57, 58, 59, 60, 61] (by decide +kernel) (by decide +kernel)
set_option maxRecDepth 20000 in
theorem gX8_hear_X8_note : GoodIn wsX8_hear (wsV RX8 140 RX8 yX8_note wsX8_note) := goodIn_app (goodIn_of _ (by decide +kernel)) ggX8_hear_X8_note
set_option maxRecDepth 20000 in
theorem ggX8_hear_X8_hears : GoodIn wsX8_hear wsX8_hears := goodIn_r _ [21, 22, 23, 4, 24, 25, 26, 27, 28, 29, 30, 31, 32, 33, 34, 35, 36, 37, 38, 39] (by decide +kernel) (by decide +kernel)
set_option maxRecDepth 20000 in
theorem gX8_hear_X8_hears : GoodIn wsX8_hear (va_wsS RX8 143 yX8_hears wsX8_hears) := goodIn_app (goodIn_of _ (by decide +kernel)) ggX8_hear_X8_hears
theorem dX8_hear_0 : decode cX8_hear 0 = .ok (.iload_n 1, 1) := by decide +kernel
theorem dX8_hear_1 : decode cX8_hear 1 = .ok (.iconst 0, 1) := by decide +kernel
theorem dX8_hear_2 : decode cX8_hear 2 = .ok (.iconst 2, 1) := by decide +kernel
theorem dX8_hear_3 : decode cX8_hear 3 = .ok (.invokestatic 60, 3) := by decide +kernel
theorem dX8_hear_6 : decode cX8_hear 6 = .ok (.ifCond .ne 5, 3) := by decide +kernel
theorem dX8_hear_9 : decode cX8_hear 9 = .ok (.iconst (-1), 1) := by decide +kernel
theorem dX8_hear_10 : decode cX8_hear 10 = .ok (.ireturn, 1) := by decide +kernel
theorem dX8_hear_11 : decode cX8_hear 11 = .ok (.aload_n 0, 1) := by decide +kernel
theorem dX8_hear_12 : decode cX8_hear 12 = .ok (.invokevirtual 137, 3) := by decide +kernel
theorem dX8_hear_15 : decode cX8_hear 15 = .ok (.ifCond .ne 6, 3) := by decide +kernel
theorem dX8_hear_18 : decode cX8_hear 18 = .ok (.bipush (-2), 2) := by decide +kernel
theorem dX8_hear_20 : decode cX8_hear 20 = .ok (.ireturn, 1) := by decide +kernel
theorem dX8_hear_21 : decode cX8_hear 21 = .ok (.aload_n 0, 1) := by decide +kernel
theorem dX8_hear_22 : decode cX8_hear 22 = .ok (.invokevirtual 140, 3) := by decide +kernel
theorem dX8_hear_25 : decode cX8_hear 25 = .ok (.aload_n 0, 1) := by decide +kernel
theorem dX8_hear_26 : decode cX8_hear 26 = .ok (.getfield 23, 3) := by decide +kernel
theorem dX8_hear_29 : decode cX8_hear 29 = .ok (.iconst 0, 1) := by decide +kernel
theorem dX8_hear_30 : decode cX8_hear 30 = .ok (.iaload, 1) := by decide +kernel
theorem dX8_hear_31 : decode cX8_hear 31 = .ok (.istore_n 2, 1) := by decide +kernel
theorem dX8_hear_32 : decode cX8_hear 32 = .ok (.aload_n 0, 1) := by decide +kernel
theorem dX8_hear_33 : decode cX8_hear 33 = .ok (.getfield 23, 3) := by decide +kernel
theorem dX8_hear_36 : decode cX8_hear 36 = .ok (.iload_n 1, 1) := by decide +kernel
theorem dX8_hear_37 : decode cX8_hear 37 = .ok (.ifCond .ne 8, 3) := by decide +kernel
theorem dX8_hear_40 : decode cX8_hear 40 = .ok (.bipush (-4), 2) := by decide +kernel
theorem dX8_hear_42 : decode cX8_hear 42 = .ok (.goto 29, 3) := by decide +kernel
theorem dX8_hear_45 : decode cX8_hear 45 = .ok (.iload_n 1, 1) := by decide +kernel
theorem dX8_hear_46 : decode cX8_hear 46 = .ok (.iconst 1, 1) := by decide +kernel
theorem dX8_hear_47 : decode cX8_hear 47 = .ok (.if_icmp .ne 15, 3) := by decide +kernel
theorem dX8_hear_50 : decode cX8_hear 50 = .ok (.aload_n 0, 1) := by decide +kernel
theorem dX8_hear_51 : decode cX8_hear 51 = .ok (.getfield 23, 3) := by decide +kernel
theorem dX8_hear_54 : decode cX8_hear 54 = .ok (.bipush 35, 2) := by decide +kernel
theorem dX8_hear_56 : decode cX8_hear 56 = .ok (.iload_n 2, 1) := by decide +kernel
theorem dX8_hear_57 : decode cX8_hear 57 = .ok (.iadd, 1) := by decide +kernel
theorem dX8_hear_58 : decode cX8_hear 58 = .ok (.iaload, 1) := by decide +kernel
theorem dX8_hear_59 : decode cX8_hear 59 = .ok (.goto 12, 3) := by decide +kernel
theorem dX8_hear_62 : decode cX8_hear 62 = .ok (.aload_n 0, 1) := by decide +kernel
theorem dX8_hear_63 : decode cX8_hear 63 = .ok (.getfield 23, 3) := by decide +kernel
theorem dX8_hear_66 : decode cX8_hear 66 = .ok (.bipush 47, 2) := by decide +kernel
theorem dX8_hear_68 : decode cX8_hear 68 = .ok (.iload_n 2, 1) := by decide +kernel
theorem dX8_hear_69 : decode cX8_hear 69 = .ok (.iadd, 1) := by decide +kernel
theorem dX8_hear_70 : decode cX8_hear 70 = .ok (.iaload, 1) := by decide +kernel
theorem dX8_hear_71 : decode cX8_hear 71 = .ok (.invokestatic 143, 3) := by decide +kernel
theorem dX8_hear_74 : decode cX8_hear 74 = .ok (.ireturn, 1) := by decide +kernel
theorem dX8_change_0 : decode cX8_change 0 = .ok (.aload_n 0, 1) := by decide +kernel
theorem dX8_change_1 : decode cX8_change 1 = .ok (.iload_n 1, 1) := by decide +kernel
theorem dX8_change_2 : decode cX8_change 2 = .ok (.iload_n 2, 1) := by decide +kernel
theorem dX8_change_3 : decode cX8_change 3 = .ok (.iadd, 1) := by decide +kernel
theorem dX8_change_4 : decode cX8_change 4 = .ok (.iaload, 1) := by decide +kernel
theorem dX8_change_5 : decode cX8_change 5 = .ok (.istore 4, 2) := by decide +kernel
theorem dX8_change_7 : decode cX8_change 7 = .ok (.aload_n 0, 1) := by decide +kernel
theorem dX8_change_8 : decode cX8_change 8 = .ok (.iload_n 1, 1) := by decide +kernel
theorem dX8_change_9 : decode cX8_change 9 = .ok (.iload_n 2, 1) := by decide +kernel
theorem dX8_change_10 : decode cX8_change 10 = .ok (.iadd, 1) := by decide +kernel
theorem dX8_change_11 : decode cX8_change 11 = .ok (.aload_n 0, 1) := by decide +kernel
theorem dX8_change_12 : decode cX8_change 12 = .ok (.iload_n 1, 1) := by decide +kernel
theorem dX8_change_13 : decode cX8_change 13 = .ok (.iload_n 3, 1) := by decide +kernel
theorem dX8_change_14 : decode cX8_change 14 = .ok (.iadd, 1) := by decide +kernel
theorem dX8_change_15 : decode cX8_change 15 = .ok (.iaload, 1) := by decide +kernel
theorem dX8_change_16 : decode cX8_change 16 = .ok (.iastore, 1) := by decide +kernel
theorem dX8_change_17 : decode cX8_change 17 = .ok (.aload_n 0, 1) := by decide +kernel
theorem dX8_change_18 : decode cX8_change 18 = .ok (.iload_n 1, 1) := by decide +kernel
theorem dX8_change_19 : decode cX8_change 19 = .ok (.iload_n 3, 1) := by decide +kernel
theorem dX8_change_20 : decode cX8_change 20 = .ok (.iadd, 1) := by decide +kernel
theorem dX8_change_21 : decode cX8_change 21 = .ok (.iload 4, 2) := by decide +kernel
theorem dX8_change_23 : decode cX8_change 23 = .ok (.iastore, 1) := by decide +kernel
theorem dX8_change_24 : decode cX8_change 24 = .ok (.return_, 1) := by decide +kernel
set_option maxRecDepth 20000 in
theorem ggX8_changeCases_X8_change : GoodIn wsX8_changeCases wsX8_change := goodIn_r _ [4] (by decide +kernel) (by decide +kernel)
set_option maxRecDepth 20000 in
theorem gX8_changeCases_X8_change : GoodIn wsX8_changeCases (va_wsS RX8 147 yX8_change wsX8_change) := goodIn_app (goodIn_of _ (by decide +kernel)) ggX8_changeCases_X8_change
theorem dX8_changeCases_0 : decode cX8_changeCases 0 = .ok (.aload_n 0, 1) := by decide +kernel
theorem dX8_changeCases_1 : decode cX8_changeCases 1 = .ok (.bipush 35, 2) := by decide +kernel
theorem dX8_changeCases_3 : decode cX8_changeCases 3 = .ok (.iload_n 1, 1) := by decide +kernel
theorem dX8_changeCases_4 : decode cX8_changeCases 4 = .ok (.iload_n 2, 1) := by decide +kernel
theorem dX8_changeCases_5 : decode cX8_changeCases 5 = .ok (.invokestatic 147, 3) := by decide +kernel
theorem dX8_changeCases_8 : decode cX8_changeCases 8 = .ok (.aload_n 0, 1) := by decide +kernel
theorem dX8_changeCases_9 : decode cX8_changeCases 9 = .ok (.bipush 47, 2) := by decide +kernel
theorem dX8_changeCases_11 : decode cX8_changeCases 11 = .ok (.iload_n 1, 1) := by decide +kernel
theorem dX8_changeCases_12 : decode cX8_changeCases 12 = .ok (.iload_n 2, 1) := by decide +kernel
theorem dX8_changeCases_13 : decode cX8_changeCases 13 = .ok (.invokestatic 147, 3) := by decide +kernel
theorem dX8_changeCases_16 : decode cX8_changeCases 16 = .ok (.aload_n 0, 1) := by decide +kernel
theorem dX8_changeCases_17 : decode cX8_changeCases 17 = .ok (.bipush 59, 2) := by decide +kernel
theorem dX8_changeCases_19 : decode cX8_changeCases 19 = .ok (.iload_n 1, 1) := by decide +kernel
theorem dX8_changeCases_20 : decode cX8_changeCases 20 = .ok (.iload_n 2, 1) := by decide +kernel
theorem dX8_changeCases_21 : decode cX8_changeCases 21 = .ok (.invokestatic 147, 3) := by decide +kernel
theorem dX8_changeCases_24 : decode cX8_changeCases 24 = .ok (.return_, 1) := by decide +kernel
set_option maxRecDepth 20000 in
theorem ggX8_swap_X8_isCase : GoodIn wsX8_swap wsX8_isCase := goodIn_r _ [6, 1, 7, 8, 5, 9, 25, 26, 27, 28, 29, 30, 31, 32, 33, 34, 35, 36, 37, 38, 39, 40, 41, 42, 43, 44, 45, 46] (by decide +kernel) (by decide +kernel)
set_option maxRecDepth 20000 in
theorem gX8_swap_X8_isCase : GoodIn wsX8_swap (wsV RX8 119 RX8 yX8_isCase wsX8_isCase) := goodIn_app (goodIn_of _ (by decide +kernel)) ggX8_swap_X8_isCase
set_option maxRecDepth 20000 in
theorem ggX8_swap_X8_note : GoodIn wsX8_swap wsX8_note := goodIn_r _ [13, 14, 15, 1, 16, 17, 5, 18, 25, 26, 27, 28, 29, 30, 31, 32, 33, 34, 35, 36, 37, 38, 39, 40, 41, 42, 43, 44, 45, 46] (by decide +kernel) (by decide +kernel)
set_option maxRecDepth 20000 in
theorem gX8_swap_X8_note : GoodIn wsX8_swap (wsV RX8 140 RX8 yX8_note wsX8_note) := goodIn_app (goodIn_of _ (by decide +kernel)) ggX8_swap_X8_note
set_option maxRecDepth 20000 in
theorem ggX8_swap_X8_changeCases : GoodIn wsX8_swap wsX8_changeCases := goodIn_r _ [21, 22, 23, 5, 24] (by decide +kernel) (by decide +kernel)
set_option maxRecDepth 20000 in
theorem gX8_swap_X8_changeCases : GoodIn wsX8_swap (va_wsS RX8 151 yX8_changeCases wsX8_changeCases) := goodIn_app (goodIn_of _ (by decide +kernel)) ggX8_swap_X8_changeCases
theorem dX8_swap_0 : decode cX8_swap 0 = .ok (.aload_n 0, 1) := by decide +kernel
theorem dX8_swap_1 : decode cX8_swap 1 = .ok (.iload_n 1, 1) := by decide +kernel
theorem dX8_swap_2 : decode cX8_swap 2 = .ok (.invokevirtual 119, 3) := by decide +kernel
theorem dX8_swap_5 : decode cX8_swap 5 = .ok (.ifCond .eq 11, 3) := by decide +kernel
theorem dX8_swap_8 : decode cX8_swap 8 = .ok (.aload_n 0, 1) := by decide +kernel
theorem dX8_swap_9 : decode cX8_swap 9 = .ok (.iload_n 2, 1) := by decide +kernel
theorem dX8_swap_10 : decode cX8_swap 10 = .ok (.invokevirtual 119, 3) := by decide +kernel
theorem dX8_swap_13 : decode cX8_swap 13 = .ok (.ifCond .ne 5, 3) := by decide +kernel
theorem dX8_swap_16 : decode cX8_swap 16 = .ok (.iconst (-1), 1) := by decide +kernel
theorem dX8_swap_17 : decode cX8_swap 17 = .ok (.ireturn, 1) := by decide +kernel
theorem dX8_swap_18 : decode cX8_swap 18 = .ok (.iload_n 1, 1) := by decide +kernel
theorem dX8_swap_19 : decode cX8_swap 19 = .ok (.iload_n 2, 1) := by decide +kernel
theorem dX8_swap_20 : decode cX8_swap 20 = .ok (.if_icmp .eq 23, 3) := by decide +kernel
theorem dX8_swap_23 : decode cX8_swap 23 = .ok (.iload_n 1, 1) := by decide +kernel
theorem dX8_swap_24 : decode cX8_swap 24 = .ok (.aload_n 0, 1) := by decide +kernel
theorem dX8_swap_25 : decode cX8_swap 25 = .ok (.getfield 23, 3) := by decide +kernel
theorem dX8_swap_28 : decode cX8_swap 28 = .ok (.iconst 0, 1) := by decide +kernel
theorem dX8_swap_29 : decode cX8_swap 29 = .ok (.iaload, 1) := by decide +kernel
theorem dX8_swap_30 : decode cX8_swap 30 = .ok (.if_icmp .lt 13, 3) := by decide +kernel
theorem dX8_swap_33 : decode cX8_swap 33 = .ok (.iload_n 2, 1) := by decide +kernel
theorem dX8_swap_34 : decode cX8_swap 34 = .ok (.aload_n 0, 1) := by decide +kernel
theorem dX8_swap_35 : decode cX8_swap 35 = .ok (.getfield 23, 3) := by decide +kernel
theorem dX8_swap_38 : decode cX8_swap 38 = .ok (.iconst 0, 1) := by decide +kernel
theorem dX8_swap_39 : decode cX8_swap 39 = .ok (.iaload, 1) := by decide +kernel
theorem dX8_swap_40 : decode cX8_swap 40 = .ok (.if_icmp .ge 6, 3) := by decide +kernel
theorem dX8_swap_43 : decode cX8_swap 43 = .ok (.bipush (-2), 2) := by decide +kernel
theorem dX8_swap_45 : decode cX8_swap 45 = .ok (.ireturn, 1) := by decide +kernel
theorem dX8_swap_46 : decode cX8_swap 46 = .ok (.aload_n 0, 1) := by decide +kernel
theorem dX8_swap_47 : decode cX8_swap 47 = .ok (.invokevirtual 140, 3) := by decide +kernel
theorem dX8_swap_50 : decode cX8_swap 50 = .ok (.aload_n 0, 1) := by decide +kernel
theorem dX8_swap_51 : decode cX8_swap 51 = .ok (.getfield 23, 3) := by decide +kernel
theorem dX8_swap_54 : decode cX8_swap 54 = .ok (.iload_n 1, 1) := by decide +kernel
theorem dX8_swap_55 : decode cX8_swap 55 = .ok (.iload_n 2, 1) := by decide +kernel
theorem dX8_swap_56 : decode cX8_swap 56 = .ok (.invokestatic 151, 3) := by decide +kernel
theorem dX8_swap_59 : decode cX8_swap 59 = .ok (.aload_n 0, 1) := by decide +kernel
theorem dX8_swap_60 : decode cX8_swap 60 = .ok (.getfield 23, 3) := by decide +kernel
theorem dX8_swap_63 : decode cX8_swap 63 = .ok (.iconst 0, 1) := by decide +kernel
theorem dX8_swap_64 : decode cX8_swap 64 = .ok (.iaload, 1) := by decide +kernel
theorem dX8_swap_65 : decode cX8_swap 65 = .ok (.ireturn, 1) := by decide +kernel
set_option maxRecDepth 20000 in
theorem ggX8_soothe_X8_isParty : GoodIn wsX8_soothe wsX8_isParty := goodIn_r _ [6, 1, 7, 8, 5, 9, 19, 20, 21, 22, 23, 24, 25, 26, 27, 28, 29, 30, 31, 32, 33, 34, 35, 36, 37, 38, 39, 40] (by decide +kernel) (by decide +kernel)
set_option maxRecDepth 20000 in
theorem gX8_soothe_X8_isParty : GoodIn wsX8_soothe (wsV RX8 110 RX8 yX8_isParty wsX8_isParty) := goodIn_app (goodIn_of _ (by decide +kernel)) ggX8_soothe_X8_isParty
set_option maxRecDepth 20000 in
theorem ggX8_soothe_X8_note : GoodIn wsX8_soothe wsX8_note := goodIn_r _ [13, 14, 15, 1, 16, 17, 5, 18, 19, 20, 21, 22, 23, 24, 25, 26, 27, 28, 29, 30, 31, 32, 33, 34, 35, 36, 37, 38, 39, 40] (by decide +kernel) (by decide +kernel)
set_option maxRecDepth 20000 in
theorem gX8_soothe_X8_note : GoodIn wsX8_soothe (wsV RX8 140 RX8 yX8_note wsX8_note) := goodIn_app (goodIn_of _ (by decide +kernel)) ggX8_soothe_X8_note
theorem dX8_soothe_0 : decode cX8_soothe 0 = .ok (.aload_n 0, 1) := by decide +kernel
theorem dX8_soothe_1 : decode cX8_soothe 1 = .ok (.iload_n 1, 1) := by decide +kernel
theorem dX8_soothe_2 : decode cX8_soothe 2 = .ok (.invokevirtual 110, 3) := by decide +kernel
theorem dX8_soothe_5 : decode cX8_soothe 5 = .ok (.ifCond .ne 5, 3) := by decide +kernel
theorem dX8_soothe_8 : decode cX8_soothe 8 = .ok (.iconst (-1), 1) := by decide +kernel
theorem dX8_soothe_9 : decode cX8_soothe 9 = .ok (.ireturn, 1) := by decide +kernel
theorem dX8_soothe_10 : decode cX8_soothe 10 = .ok (.aload_n 0, 1) := by decide +kernel
theorem dX8_soothe_11 : decode cX8_soothe 11 = .ok (.getfield 23, 3) := by decide +kernel
theorem dX8_soothe_14 : decode cX8_soothe 14 = .ok (.bipush 11, 2) := by decide +kernel
theorem dX8_soothe_16 : decode cX8_soothe 16 = .ok (.iload_n 1, 1) := by decide +kernel
theorem dX8_soothe_17 : decode cX8_soothe 17 = .ok (.iadd, 1) := by decide +kernel
theorem dX8_soothe_18 : decode cX8_soothe 18 = .ok (.iaload, 1) := by decide +kernel
theorem dX8_soothe_19 : decode cX8_soothe 19 = .ok (.ifCond .ne 6, 3) := by decide +kernel
theorem dX8_soothe_22 : decode cX8_soothe 22 = .ok (.bipush (-2), 2) := by decide +kernel
theorem dX8_soothe_24 : decode cX8_soothe 24 = .ok (.ireturn, 1) := by decide +kernel
theorem dX8_soothe_25 : decode cX8_soothe 25 = .ok (.aload_n 0, 1) := by decide +kernel
theorem dX8_soothe_26 : decode cX8_soothe 26 = .ok (.invokevirtual 140, 3) := by decide +kernel
theorem dX8_soothe_29 : decode cX8_soothe 29 = .ok (.aload_n 0, 1) := by decide +kernel
theorem dX8_soothe_30 : decode cX8_soothe 30 = .ok (.getfield 23, 3) := by decide +kernel
theorem dX8_soothe_33 : decode cX8_soothe 33 = .ok (.bipush 11, 2) := by decide +kernel
theorem dX8_soothe_35 : decode cX8_soothe 35 = .ok (.iload_n 1, 1) := by decide +kernel
theorem dX8_soothe_36 : decode cX8_soothe 36 = .ok (.iadd, 1) := by decide +kernel
theorem dX8_soothe_37 : decode cX8_soothe 37 = .ok (.aload_n 0, 1) := by decide +kernel
theorem dX8_soothe_38 : decode cX8_soothe 38 = .ok (.getfield 23, 3) := by decide +kernel
theorem dX8_soothe_41 : decode cX8_soothe 41 = .ok (.bipush 11, 2) := by decide +kernel
theorem dX8_soothe_43 : decode cX8_soothe 43 = .ok (.iload_n 1, 1) := by decide +kernel
theorem dX8_soothe_44 : decode cX8_soothe 44 = .ok (.iadd, 1) := by decide +kernel
theorem dX8_soothe_45 : decode cX8_soothe 45 = .ok (.iaload, 1) := by decide +kernel
theorem dX8_soothe_46 : decode cX8_soothe 46 = .ok (.iconst 3, 1) := by decide +kernel
theorem dX8_soothe_47 : decode cX8_soothe 47 = .ok (.if_icmp .le 17, 3) := by decide +kernel
theorem dX8_soothe_50 : decode cX8_soothe 50 = .ok (.aload_n 0, 1) := by decide +kernel
theorem dX8_soothe_51 : decode cX8_soothe 51 = .ok (.getfield 23, 3) := by decide +kernel
theorem dX8_soothe_54 : decode cX8_soothe 54 = .ok (.bipush 11, 2) := by decide +kernel
theorem dX8_soothe_56 : decode cX8_soothe 56 = .ok (.iload_n 1, 1) := by decide +kernel
theorem dX8_soothe_57 : decode cX8_soothe 57 = .ok (.iadd, 1) := by decide +kernel
theorem dX8_soothe_58 : decode cX8_soothe 58 = .ok (.iaload, 1) := by decide +kernel
theorem dX8_soothe_59 : decode cX8_soothe 59 = .ok (.iconst 3, 1) := by decide +kernel
theorem dX8_soothe_60 : decode cX8_soothe 60 = .ok (.isub, 1) := by decide +kernel
theorem dX8_soothe_61 : decode cX8_soothe 61 = .ok (.goto 4, 3) := by decide +kernel
theorem dX8_soothe_64 : decode cX8_soothe 64 = .ok (.iconst 0, 1) := by decide +kernel
theorem dX8_soothe_65 : decode cX8_soothe 65 = .ok (.iastore, 1) := by decide +kernel
theorem dX8_soothe_66 : decode cX8_soothe 66 = .ok (.aload_n 0, 1) := by decide +kernel
theorem dX8_soothe_67 : decode cX8_soothe 67 = .ok (.getfield 23, 3) := by decide +kernel
theorem dX8_soothe_70 : decode cX8_soothe 70 = .ok (.bipush 11, 2) := by decide +kernel
theorem dX8_soothe_72 : decode cX8_soothe 72 = .ok (.iload_n 1, 1) := by decide +kernel
theorem dX8_soothe_73 : decode cX8_soothe 73 = .ok (.iadd, 1) := by decide +kernel
theorem dX8_soothe_74 : decode cX8_soothe 74 = .ok (.iaload, 1) := by decide +kernel
theorem dX8_soothe_75 : decode cX8_soothe 75 = .ok (.ireturn, 1) := by decide +kernel
set_option maxRecDepth 20000 in
theorem ggX8_seat_X8_isJudge : GoodIn wsX8_seat wsX8_isJudge := goodIn_r _ [6, 1, 7, 8, 5, 9, 19, 20, 21, 22, 23, 24, 25, 26, 27, 28, 29, 30, 31, 32, 33, 34, 35, 36, 37, 38, 39, 40] (by decide +kernel) (by decide +kernel)
set_option maxRecDepth 20000 in
theorem gX8_seat_X8_isJudge : GoodIn wsX8_seat (wsV RX8 116 RX8 yX8_isJudge wsX8_isJudge) := goodIn_app (goodIn_of _ (by decide +kernel)) ggX8_seat_X8_isJudge
set_option maxRecDepth 20000 in
theorem ggX8_seat_X8_note : GoodIn wsX8_seat wsX8_note := goodIn_r _ [13, 14, 15, 1, 16, 17, 5, 18, 19, 20, 21, 22, 23, 24, 25, 26, 27, 28, 29, 30, 31, 32, 33, 34, 35, 36, 37, 38, 39, 40] (by decide +kernel) (by decide +kernel)
set_option maxRecDepth 20000 in
theorem gX8_seat_X8_note : GoodIn wsX8_seat (wsV RX8 140 RX8 yX8_note wsX8_note) := goodIn_app (goodIn_of _ (by decide +kernel)) ggX8_seat_X8_note
theorem dX8_seat_0 : decode cX8_seat 0 = .ok (.aload_n 0, 1) := by decide +kernel
theorem dX8_seat_1 : decode cX8_seat 1 = .ok (.iload_n 1, 1) := by decide +kernel
theorem dX8_seat_2 : decode cX8_seat 2 = .ok (.invokevirtual 116, 3) := by decide +kernel
theorem dX8_seat_5 : decode cX8_seat 5 = .ok (.ifCond .ne 5, 3) := by decide +kernel
theorem dX8_seat_8 : decode cX8_seat 8 = .ok (.iconst (-1), 1) := by decide +kernel
theorem dX8_seat_9 : decode cX8_seat 9 = .ok (.ireturn, 1) := by decide +kernel
theorem dX8_seat_10 : decode cX8_seat 10 = .ok (.aload_n 0, 1) := by decide +kernel
theorem dX8_seat_11 : decode cX8_seat 11 = .ok (.getfield 23, 3) := by decide +kernel
theorem dX8_seat_14 : decode cX8_seat 14 = .ok (.iconst 1, 1) := by decide +kernel
theorem dX8_seat_15 : decode cX8_seat 15 = .ok (.iaload, 1) := by decide +kernel
theorem dX8_seat_16 : decode cX8_seat 16 = .ok (.istore_n 2, 1) := by decide +kernel
theorem dX8_seat_17 : decode cX8_seat 17 = .ok (.iload_n 2, 1) := by decide +kernel
theorem dX8_seat_18 : decode cX8_seat 18 = .ok (.iload_n 1, 1) := by decide +kernel
theorem dX8_seat_19 : decode cX8_seat 19 = .ok (.if_icmp .ne 6, 3) := by decide +kernel
theorem dX8_seat_22 : decode cX8_seat 22 = .ok (.bipush (-2), 2) := by decide +kernel
theorem dX8_seat_24 : decode cX8_seat 24 = .ok (.ireturn, 1) := by decide +kernel
theorem dX8_seat_25 : decode cX8_seat 25 = .ok (.aload_n 0, 1) := by decide +kernel
theorem dX8_seat_26 : decode cX8_seat 26 = .ok (.invokevirtual 140, 3) := by decide +kernel
theorem dX8_seat_29 : decode cX8_seat 29 = .ok (.aload_n 0, 1) := by decide +kernel
theorem dX8_seat_30 : decode cX8_seat 30 = .ok (.getfield 23, 3) := by decide +kernel
theorem dX8_seat_33 : decode cX8_seat 33 = .ok (.iconst 1, 1) := by decide +kernel
theorem dX8_seat_34 : decode cX8_seat 34 = .ok (.iload_n 1, 1) := by decide +kernel
theorem dX8_seat_35 : decode cX8_seat 35 = .ok (.iastore, 1) := by decide +kernel
theorem dX8_seat_36 : decode cX8_seat 36 = .ok (.iload_n 2, 1) := by decide +kernel
theorem dX8_seat_37 : decode cX8_seat 37 = .ok (.ireturn, 1) := by decide +kernel
set_option maxRecDepth 20000 in
theorem ggX8_lean_X8_isJudge : GoodIn wsX8_lean wsX8_isJudge := goodIn_r _ [6, 1, 7, 8, 5, 9, 19, 20, 21, 22, 23, 24, 25, 26, 27, 28, 29, 30, 31, 32, 33, 34, 35, 36, 37, 38, 39, 40] (by decide +kernel) (by decide +kernel)
set_option maxRecDepth 20000 in
theorem gX8_lean_X8_isJudge : GoodIn wsX8_lean (wsV RX8 116 RX8 yX8_isJudge wsX8_isJudge) := goodIn_app (goodIn_of _ (by decide +kernel)) ggX8_lean_X8_isJudge
set_option maxRecDepth 20000 in
theorem ggX8_lean_X8_in : GoodIn wsX8_lean wsX8_in := goodIn_r _ [9] (by decide +kernel) (by decide +kernel)
set_option maxRecDepth 20000 in
theorem gX8_lean_X8_in : GoodIn wsX8_lean (va_wsS RX8 60 yX8_in wsX8_in) := goodIn_app (goodIn_of _ (by decide +kernel)) ggX8_lean_X8_in
set_option maxRecDepth 20000 in
theorem ggX8_lean_X8_note : GoodIn wsX8_lean wsX8_note := goodIn_r _ [13, 14, 15, 1, 16, 17, 5, 18, 19, 20, 21, 22, 23, 24, 25, 26, 27, 28, 29, 30, 31, 32, 33, 34, 35, 36, 37, 38, 39, 40] (by decide +kernel) (by decide +kernel)
set_option maxRecDepth 20000 in
theorem gX8_lean_X8_note : GoodIn wsX8_lean (wsV RX8 140 RX8 yX8_note wsX8_note) := goodIn_app (goodIn_of _ (by decide +kernel)) ggX8_lean_X8_note
theorem dX8_lean_0 : decode cX8_lean 0 = .ok (.aload_n 0, 1) := by decide +kernel
theorem dX8_lean_1 : decode cX8_lean 1 = .ok (.iload_n 1, 1) := by decide +kernel
theorem dX8_lean_2 : decode cX8_lean 2 = .ok (.invokevirtual 116, 3) := by decide +kernel
theorem dX8_lean_5 : decode cX8_lean 5 = .ok (.ifCond .eq 13, 3) := by decide +kernel
theorem dX8_lean_8 : decode cX8_lean 8 = .ok (.iload_n 2, 1) := by decide +kernel
theorem dX8_lean_9 : decode cX8_lean 9 = .ok (.iconst 0, 1) := by decide +kernel
theorem dX8_lean_10 : decode cX8_lean 10 = .ok (.bipush 9, 2) := by decide +kernel
theorem dX8_lean_12 : decode cX8_lean 12 = .ok (.invokestatic 60, 3) := by decide +kernel
theorem dX8_lean_15 : decode cX8_lean 15 = .ok (.ifCond .ne 5, 3) := by decide +kernel
theorem dX8_lean_18 : decode cX8_lean 18 = .ok (.iconst (-1), 1) := by decide +kernel
theorem dX8_lean_19 : decode cX8_lean 19 = .ok (.ireturn, 1) := by decide +kernel
theorem dX8_lean_20 : decode cX8_lean 20 = .ok (.aload_n 0, 1) := by decide +kernel
theorem dX8_lean_21 : decode cX8_lean 21 = .ok (.getfield 23, 3) := by decide +kernel
theorem dX8_lean_24 : decode cX8_lean 24 = .ok (.bipush 23, 2) := by decide +kernel
theorem dX8_lean_26 : decode cX8_lean 26 = .ok (.iload_n 1, 1) := by decide +kernel
theorem dX8_lean_27 : decode cX8_lean 27 = .ok (.iadd, 1) := by decide +kernel
theorem dX8_lean_28 : decode cX8_lean 28 = .ok (.iaload, 1) := by decide +kernel
theorem dX8_lean_29 : decode cX8_lean 29 = .ok (.istore_n 3, 1) := by decide +kernel
theorem dX8_lean_30 : decode cX8_lean 30 = .ok (.iload_n 3, 1) := by decide +kernel
theorem dX8_lean_31 : decode cX8_lean 31 = .ok (.iload_n 2, 1) := by decide +kernel
theorem dX8_lean_32 : decode cX8_lean 32 = .ok (.if_icmp .ne 6, 3) := by decide +kernel
theorem dX8_lean_35 : decode cX8_lean 35 = .ok (.bipush (-2), 2) := by decide +kernel
theorem dX8_lean_37 : decode cX8_lean 37 = .ok (.ireturn, 1) := by decide +kernel
theorem dX8_lean_38 : decode cX8_lean 38 = .ok (.aload_n 0, 1) := by decide +kernel
theorem dX8_lean_39 : decode cX8_lean 39 = .ok (.invokevirtual 140, 3) := by decide +kernel
theorem dX8_lean_42 : decode cX8_lean 42 = .ok (.aload_n 0, 1) := by decide +kernel
theorem dX8_lean_43 : decode cX8_lean 43 = .ok (.getfield 23, 3) := by decide +kernel
theorem dX8_lean_46 : decode cX8_lean 46 = .ok (.bipush 23, 2) := by decide +kernel
theorem dX8_lean_48 : decode cX8_lean 48 = .ok (.iload_n 1, 1) := by decide +kernel
theorem dX8_lean_49 : decode cX8_lean 49 = .ok (.iadd, 1) := by decide +kernel
theorem dX8_lean_50 : decode cX8_lean 50 = .ok (.iload_n 2, 1) := by decide +kernel
theorem dX8_lean_51 : decode cX8_lean 51 = .ok (.iastore, 1) := by decide +kernel
theorem dX8_lean_52 : decode cX8_lean 52 = .ok (.iload_n 3, 1) := by decide +kernel
theorem dX8_lean_53 : decode cX8_lean 53 = .ok (.ireturn, 1) := by decide +kernel
set_option maxRecDepth 20000 in
theorem ggX8_undo_X8_bring : GoodIn wsX8_undo wsX8_bring := goodIn_r _ [7] (by decide +kernel) (by decide +kernel)
set_option maxRecDepth 20000 in
theorem gX8_undo_X8_bring : GoodIn wsX8_undo (va_wsS RX8 99 yX8_bring wsX8_bring) := goodIn_app (goodIn_of _ (by decide +kernel)) ggX8_undo_X8_bring
theorem dX8_undo_0 : decode cX8_undo 0 = .ok (.aload_n 0, 1) := by decide +kernel
theorem dX8_undo_1 : decode cX8_undo 1 = .ok (.getfield 103, 3) := by decide +kernel
theorem dX8_undo_4 : decode cX8_undo 4 = .ok (.ifCond .ne 6, 3) := by decide +kernel
theorem dX8_undo_7 : decode cX8_undo 7 = .ok (.bipush (-4), 2) := by decide +kernel
theorem dX8_undo_9 : decode cX8_undo 9 = .ok (.ireturn, 1) := by decide +kernel
theorem dX8_undo_10 : decode cX8_undo 10 = .ok (.aload_n 0, 1) := by decide +kernel
theorem dX8_undo_11 : decode cX8_undo 11 = .ok (.dup, 1) := by decide +kernel
theorem dX8_undo_12 : decode cX8_undo 12 = .ok (.getfield 103, 3) := by decide +kernel
theorem dX8_undo_15 : decode cX8_undo 15 = .ok (.iconst 1, 1) := by decide +kernel
theorem dX8_undo_16 : decode cX8_undo 16 = .ok (.isub, 1) := by decide +kernel
theorem dX8_undo_17 : decode cX8_undo 17 = .ok (.putfield 103, 3) := by decide +kernel
theorem dX8_undo_20 : decode cX8_undo 20 = .ok (.aload_n 0, 1) := by decide +kernel
theorem dX8_undo_21 : decode cX8_undo 21 = .ok (.getfield 39, 3) := by decide +kernel
theorem dX8_undo_24 : decode cX8_undo 24 = .ok (.bipush 83, 2) := by decide +kernel
theorem dX8_undo_26 : decode cX8_undo 26 = .ok (.aload_n 0, 1) := by decide +kernel
theorem dX8_undo_27 : decode cX8_undo 27 = .ok (.getfield 103, 3) := by decide +kernel
theorem dX8_undo_30 : decode cX8_undo 30 = .ok (.imul, 1) := by decide +kernel
theorem dX8_undo_31 : decode cX8_undo 31 = .ok (.aload_n 0, 1) := by decide +kernel
theorem dX8_undo_32 : decode cX8_undo 32 = .ok (.getfield 23, 3) := by decide +kernel
theorem dX8_undo_35 : decode cX8_undo 35 = .ok (.iconst 0, 1) := by decide +kernel
theorem dX8_undo_36 : decode cX8_undo 36 = .ok (.bipush 83, 2) := by decide +kernel
theorem dX8_undo_38 : decode cX8_undo 38 = .ok (.invokestatic 99, 3) := by decide +kernel
theorem dX8_undo_41 : decode cX8_undo 41 = .ok (.aload_n 0, 1) := by decide +kernel
theorem dX8_undo_42 : decode cX8_undo 42 = .ok (.getfield 103, 3) := by decide +kernel
theorem dX8_undo_45 : decode cX8_undo 45 = .ok (.ireturn, 1) := by decide +kernel
set_option maxRecDepth 20000 in
theorem ggX8_image_X8_in : GoodIn wsX8_image wsX8_in := goodIn_r _ [7] (by decide +kernel) (by decide +kernel)
set_option maxRecDepth 20000 in
theorem gX8_image_X8_in : GoodIn wsX8_image (va_wsS RX8 60 yX8_in wsX8_in) := goodIn_app (goodIn_of _ (by decide +kernel)) ggX8_image_X8_in
set_option maxRecDepth 20000 in
theorem ggX8_image_X8_isThere : GoodIn wsX8_image wsX8_isThere := goodIn_r _ [11, 1, 15, 16, 17, 18, 19, 20, 21, 22, 23, 24, 25, 26, 27, 28, 29, 30, 31, 32, 33, 34, 35, 36] (by decide +kernel) (by decide +kernel)
set_option maxRecDepth 20000 in
theorem gX8_image_X8_isThere : GoodIn wsX8_image (wsV RX8 154 RX8 yX8_isThere wsX8_isThere) := goodIn_app (goodIn_of _ (by decide +kernel)) ggX8_image_X8_isThere
set_option maxRecDepth 20000 in
theorem ggX8_image_X8_bring : GoodIn wsX8_image wsX8_bring := goodIn_r _ [14] (by decide +kernel) (by decide +kernel)
set_option maxRecDepth 20000 in
theorem gX8_image_X8_bring : GoodIn wsX8_image (va_wsS RX8 99 yX8_bring wsX8_bring) := goodIn_app (goodIn_of _ (by decide +kernel)) ggX8_image_X8_bring
theorem dX8_image_0 : decode cX8_image 0 = .ok (.iload_n 1, 1) := by decide +kernel
theorem dX8_image_1 : decode cX8_image 1 = .ok (.iconst 0, 1) := by decide +kernel
theorem dX8_image_2 : decode cX8_image 2 = .ok (.iconst 1, 1) := by decide +kernel
theorem dX8_image_3 : decode cX8_image 3 = .ok (.invokestatic 60, 3) := by decide +kernel
theorem dX8_image_6 : decode cX8_image 6 = .ok (.ifCond .ne 5, 3) := by decide +kernel
theorem dX8_image_9 : decode cX8_image 9 = .ok (.iconst (-1), 1) := by decide +kernel
theorem dX8_image_10 : decode cX8_image 10 = .ok (.ireturn, 1) := by decide +kernel
theorem dX8_image_11 : decode cX8_image 11 = .ok (.aload_n 0, 1) := by decide +kernel
theorem dX8_image_12 : decode cX8_image 12 = .ok (.invokevirtual 154, 3) := by decide +kernel
theorem dX8_image_15 : decode cX8_image 15 = .ok (.ifCond .ne 6, 3) := by decide +kernel
theorem dX8_image_18 : decode cX8_image 18 = .ok (.bipush (-2), 2) := by decide +kernel
theorem dX8_image_20 : decode cX8_image 20 = .ok (.ireturn, 1) := by decide +kernel
theorem dX8_image_21 : decode cX8_image 21 = .ok (.aload_n 0, 1) := by decide +kernel
theorem dX8_image_22 : decode cX8_image 22 = .ok (.getfield 23, 3) := by decide +kernel
theorem dX8_image_25 : decode cX8_image 25 = .ok (.iconst 0, 1) := by decide +kernel
theorem dX8_image_26 : decode cX8_image 26 = .ok (.aload_n 0, 1) := by decide +kernel
theorem dX8_image_27 : decode cX8_image 27 = .ok (.getfield 32, 3) := by decide +kernel
theorem dX8_image_30 : decode cX8_image 30 = .ok (.bipush 83, 2) := by decide +kernel
theorem dX8_image_32 : decode cX8_image 32 = .ok (.iload_n 1, 1) := by decide +kernel
theorem dX8_image_33 : decode cX8_image 33 = .ok (.imul, 1) := by decide +kernel
theorem dX8_image_34 : decode cX8_image 34 = .ok (.bipush 83, 2) := by decide +kernel
theorem dX8_image_36 : decode cX8_image 36 = .ok (.invokestatic 99, 3) := by decide +kernel
theorem dX8_image_39 : decode cX8_image 39 = .ok (.aload_n 0, 1) := by decide +kernel
theorem dX8_image_40 : decode cX8_image 40 = .ok (.getfield 35, 3) := by decide +kernel
theorem dX8_image_43 : decode cX8_image 43 = .ok (.iload_n 1, 1) := by decide +kernel
theorem dX8_image_44 : decode cX8_image 44 = .ok (.iconst 1, 1) := by decide +kernel
theorem dX8_image_45 : decode cX8_image 45 = .ok (.bastore, 1) := by decide +kernel
theorem dX8_image_46 : decode cX8_image 46 = .ok (.aload_n 0, 1) := by decide +kernel
theorem dX8_image_47 : decode cX8_image 47 = .ok (.getfield 23, 3) := by decide +kernel
theorem dX8_image_50 : decode cX8_image 50 = .ok (.iconst 0, 1) := by decide +kernel
theorem dX8_image_51 : decode cX8_image 51 = .ok (.iaload, 1) := by decide +kernel
theorem dX8_image_52 : decode cX8_image 52 = .ok (.ireturn, 1) := by decide +kernel
set_option maxRecDepth 20000 in
theorem ggX8_restore_X8_in : GoodIn wsX8_restore wsX8_in := goodIn_r _ [8] (by decide +kernel) (by decide +kernel)
set_option maxRecDepth 20000 in
theorem gX8_restore_X8_in : GoodIn wsX8_restore (va_wsS RX8 60 yX8_in wsX8_in) := goodIn_app (goodIn_of _ (by decide +kernel)) ggX8_restore_X8_in
set_option maxRecDepth 20000 in
theorem ggX8_restore_X8_bring : GoodIn wsX8_restore wsX8_bring := goodIn_r _ [11] (by decide +kernel) (by decide +kernel)
set_option maxRecDepth 20000 in
theorem gX8_restore_X8_bring : GoodIn wsX8_restore (va_wsS RX8 99 yX8_bring wsX8_bring) := goodIn_app (goodIn_of _ (by decide +kernel)) ggX8_restore_X8_bring
theorem dX8_restore_0 : decode cX8_restore 0 = .ok (.iload_n 1, 1) := by decide +kernel
theorem dX8_restore_1 : decode cX8_restore 1 = .ok (.iconst 0, 1) := by decide +kernel
theorem dX8_restore_2 : decode cX8_restore 2 = .ok (.iconst 1, 1) := by decide +kernel
theorem dX8_restore_3 : decode cX8_restore 3 = .ok (.invokestatic 60, 3) := by decide +kernel
theorem dX8_restore_6 : decode cX8_restore 6 = .ok (.ifCond .ne 5, 3) := by decide +kernel
theorem dX8_restore_9 : decode cX8_restore 9 = .ok (.iconst (-1), 1) := by decide +kernel
theorem dX8_restore_10 : decode cX8_restore 10 = .ok (.ireturn, 1) := by decide +kernel
theorem dX8_restore_11 : decode cX8_restore 11 = .ok (.aload_n 0, 1) := by decide +kernel
theorem dX8_restore_12 : decode cX8_restore 12 = .ok (.getfield 35, 3) := by decide +kernel
theorem dX8_restore_15 : decode cX8_restore 15 = .ok (.iload_n 1, 1) := by decide +kernel
theorem dX8_restore_16 : decode cX8_restore 16 = .ok (.baload, 1) := by decide +kernel
theorem dX8_restore_17 : decode cX8_restore 17 = .ok (.ifCond .ne 6, 3) := by decide +kernel
theorem dX8_restore_20 : decode cX8_restore 20 = .ok (.bipush (-2), 2) := by decide +kernel
theorem dX8_restore_22 : decode cX8_restore 22 = .ok (.ireturn, 1) := by decide +kernel
theorem dX8_restore_23 : decode cX8_restore 23 = .ok (.aload_n 0, 1) := by decide +kernel
theorem dX8_restore_24 : decode cX8_restore 24 = .ok (.getfield 32, 3) := by decide +kernel
theorem dX8_restore_27 : decode cX8_restore 27 = .ok (.bipush 83, 2) := by decide +kernel
theorem dX8_restore_29 : decode cX8_restore 29 = .ok (.iload_n 1, 1) := by decide +kernel
theorem dX8_restore_30 : decode cX8_restore 30 = .ok (.imul, 1) := by decide +kernel
theorem dX8_restore_31 : decode cX8_restore 31 = .ok (.aload_n 0, 1) := by decide +kernel
theorem dX8_restore_32 : decode cX8_restore 32 = .ok (.getfield 23, 3) := by decide +kernel
theorem dX8_restore_35 : decode cX8_restore 35 = .ok (.iconst 0, 1) := by decide +kernel
theorem dX8_restore_36 : decode cX8_restore 36 = .ok (.bipush 83, 2) := by decide +kernel
theorem dX8_restore_38 : decode cX8_restore 38 = .ok (.invokestatic 99, 3) := by decide +kernel
theorem dX8_restore_41 : decode cX8_restore 41 = .ok (.aload_n 0, 1) := by decide +kernel
theorem dX8_restore_42 : decode cX8_restore 42 = .ok (.iconst 0, 1) := by decide +kernel
theorem dX8_restore_43 : decode cX8_restore 43 = .ok (.putfield 103, 3) := by decide +kernel
theorem dX8_restore_46 : decode cX8_restore 46 = .ok (.aload_n 0, 1) := by decide +kernel
theorem dX8_restore_47 : decode cX8_restore 47 = .ok (.getfield 23, 3) := by decide +kernel
theorem dX8_restore_50 : decode cX8_restore 50 = .ok (.iconst 0, 1) := by decide +kernel
theorem dX8_restore_51 : decode cX8_restore 51 = .ok (.iaload, 1) := by decide +kernel
theorem dX8_restore_52 : decode cX8_restore 52 = .ok (.ireturn, 1) := by decide +kernel
set_option maxRecDepth 20000 in
theorem ggX8_begin_X8_bring : GoodIn wsX8_begin wsX8_bring := goodIn_r _ [6] (by decide +kernel) (by decide +kernel)
set_option maxRecDepth 20000 in
theorem gX8_begin_X8_bring : GoodIn wsX8_begin (va_wsS RX8 99 yX8_bring wsX8_bring) := goodIn_app (goodIn_of _ (by decide +kernel)) ggX8_begin_X8_bring
theorem dX8_begin_0 : decode cX8_begin 0 = .ok (.aload_n 0, 1) := by decide +kernel
theorem dX8_begin_1 : decode cX8_begin 1 = .ok (.getfield 23, 3) := by decide +kernel
theorem dX8_begin_4 : decode cX8_begin 4 = .ok (.iconst 0, 1) := by decide +kernel
theorem dX8_begin_5 : decode cX8_begin 5 = .ok (.aload_n 0, 1) := by decide +kernel
theorem dX8_begin_6 : decode cX8_begin 6 = .ok (.getfield 29, 3) := by decide +kernel
theorem dX8_begin_9 : decode cX8_begin 9 = .ok (.iconst 0, 1) := by decide +kernel
theorem dX8_begin_10 : decode cX8_begin 10 = .ok (.bipush 83, 2) := by decide +kernel
theorem dX8_begin_12 : decode cX8_begin 12 = .ok (.invokestatic 99, 3) := by decide +kernel
theorem dX8_begin_15 : decode cX8_begin 15 = .ok (.return_, 1) := by decide +kernel
set_option maxRecDepth 20000 in
theorem ggX8_ahead_X8_in : GoodIn wsX8_ahead wsX8_in := goodIn_r _ [5] (by decide +kernel) (by decide +kernel)
set_option maxRecDepth 20000 in
theorem gX8_ahead_X8_in : GoodIn wsX8_ahead (va_wsS RX8 60 yX8_in wsX8_in) := goodIn_app (goodIn_of _ (by decide +kernel)) ggX8_ahead_X8_in
set_option maxRecDepth 20000 in
theorem ggX8_ahead_X8_isThere : GoodIn wsX8_ahead wsX8_isThere := goodIn_r _ [9, 10, 43, 44, 45, 46, 47, 48, 49, 50, 51, 52, 53, 54, 55, 56, 57, 58, 59, 60, 61, 62, 63, 64] (by decide +kernel) (by decide +kernel)
set_option maxRecDepth 20000 in
theorem gX8_ahead_X8_isThere : GoodIn wsX8_ahead (wsV RX8 154 RX8 yX8_isThere wsX8_isThere) := goodIn_app (goodIn_of _ (by decide +kernel)) ggX8_ahead_X8_isThere
set_option maxRecDepth 20000 in
theorem ggX8_ahead_X8_casesLeft : GoodIn wsX8_ahead wsX8_casesLeft := goodIn_r _ [14, 10, 43, 44, 45, 46, 47, 48, 49, 50, 51, 52, 53, 54, 55, 56, 57, 58, 59, 60, 61, 62, 63, 64] (by decide +kernel) (by decide +kernel)
set_option maxRecDepth 20000 in
theorem gX8_ahead_X8_casesLeft : GoodIn wsX8_ahead (wsV RX8 137 RX8 yX8_casesLeft wsX8_casesLeft) := goodIn_app (goodIn_of _ (by decide +kernel)) ggX8_ahead_X8_casesLeft
set_option maxRecDepth 20000 in
theorem ggX8_ahead_X8_begin : GoodIn wsX8_ahead wsX8_begin := goodIn_r _ [18, 10, 1, 19, 20, 4, 21, 43, 44, 45, 46, 47, 48, 49, 50, 51, 52, 53, 54, 55, 56, 57, 58, 59, 60, 61, 62, 63, 64] (by decide +kernel) (by decide +kernel)
set_option maxRecDepth 20000 in
theorem gX8_ahead_X8_begin : GoodIn wsX8_ahead (wsV RX8 157 RX8 yX8_begin wsX8_begin) := goodIn_app (goodIn_of _ (by decide +kernel)) ggX8_ahead_X8_begin
set_option maxRecDepth 20000 in
theorem ggX8_ahead_X8_hears : GoodIn wsX8_ahead wsX8_hears := goodIn_r _ [24, 25, 26, 4, 27, 28, 29, 30, 31, 32, 33, 34, 35, 36, 37, 38, 39, 40, 41, 42] (by decide +kernel) (by decide +kernel)
set_option maxRecDepth 20000 in
theorem gX8_ahead_X8_hears : GoodIn wsX8_ahead (va_wsS RX8 143 yX8_hears wsX8_hears) := goodIn_app (goodIn_of _ (by decide +kernel)) ggX8_ahead_X8_hears
theorem dX8_ahead_0 : decode cX8_ahead 0 = .ok (.iload_n 1, 1) := by decide +kernel
theorem dX8_ahead_1 : decode cX8_ahead 1 = .ok (.iconst 0, 1) := by decide +kernel
theorem dX8_ahead_2 : decode cX8_ahead 2 = .ok (.bipush 12, 2) := by decide +kernel
theorem dX8_ahead_4 : decode cX8_ahead 4 = .ok (.invokestatic 60, 3) := by decide +kernel
theorem dX8_ahead_7 : decode cX8_ahead 7 = .ok (.ifCond .eq 12, 3) := by decide +kernel
theorem dX8_ahead_10 : decode cX8_ahead 10 = .ok (.iload_n 2, 1) := by decide +kernel
theorem dX8_ahead_11 : decode cX8_ahead 11 = .ok (.iconst 0, 1) := by decide +kernel
theorem dX8_ahead_12 : decode cX8_ahead 12 = .ok (.iconst 1, 1) := by decide +kernel
theorem dX8_ahead_13 : decode cX8_ahead 13 = .ok (.invokestatic 60, 3) := by decide +kernel
theorem dX8_ahead_16 : decode cX8_ahead 16 = .ok (.ifCond .ne 5, 3) := by decide +kernel
theorem dX8_ahead_19 : decode cX8_ahead 19 = .ok (.iconst (-1), 1) := by decide +kernel
theorem dX8_ahead_20 : decode cX8_ahead 20 = .ok (.ireturn, 1) := by decide +kernel
theorem dX8_ahead_21 : decode cX8_ahead 21 = .ok (.aload_n 0, 1) := by decide +kernel
theorem dX8_ahead_22 : decode cX8_ahead 22 = .ok (.invokevirtual 154, 3) := by decide +kernel
theorem dX8_ahead_25 : decode cX8_ahead 25 = .ok (.ifCond .ne 6, 3) := by decide +kernel
theorem dX8_ahead_28 : decode cX8_ahead 28 = .ok (.bipush (-2), 2) := by decide +kernel
theorem dX8_ahead_30 : decode cX8_ahead 30 = .ok (.ireturn, 1) := by decide +kernel
theorem dX8_ahead_31 : decode cX8_ahead 31 = .ok (.iload_n 1, 1) := by decide +kernel
theorem dX8_ahead_32 : decode cX8_ahead 32 = .ok (.aload_n 0, 1) := by decide +kernel
theorem dX8_ahead_33 : decode cX8_ahead 33 = .ok (.invokevirtual 137, 3) := by decide +kernel
theorem dX8_ahead_36 : decode cX8_ahead 36 = .ok (.if_icmp .le 6, 3) := by decide +kernel
theorem dX8_ahead_39 : decode cX8_ahead 39 = .ok (.bipush (-4), 2) := by decide +kernel
theorem dX8_ahead_41 : decode cX8_ahead 41 = .ok (.ireturn, 1) := by decide +kernel
theorem dX8_ahead_42 : decode cX8_ahead 42 = .ok (.aload_n 0, 1) := by decide +kernel
theorem dX8_ahead_43 : decode cX8_ahead 43 = .ok (.invokevirtual 157, 3) := by decide +kernel
theorem dX8_ahead_46 : decode cX8_ahead 46 = .ok (.bipush (-4), 2) := by decide +kernel
theorem dX8_ahead_48 : decode cX8_ahead 48 = .ok (.istore_n 3, 1) := by decide +kernel
theorem dX8_ahead_49 : decode cX8_ahead 49 = .ok (.iconst 0, 1) := by decide +kernel
theorem dX8_ahead_50 : decode cX8_ahead 50 = .ok (.istore 4, 2) := by decide +kernel
theorem dX8_ahead_52 : decode cX8_ahead 52 = .ok (.iload 4, 2) := by decide +kernel
theorem dX8_ahead_54 : decode cX8_ahead 54 = .ok (.iload_n 1, 1) := by decide +kernel
theorem dX8_ahead_55 : decode cX8_ahead 55 = .ok (.if_icmp .ge 19, 3) := by decide +kernel
theorem dX8_ahead_58 : decode cX8_ahead 58 = .ok (.aload_n 0, 1) := by decide +kernel
theorem dX8_ahead_59 : decode cX8_ahead 59 = .ok (.getfield 29, 3) := by decide +kernel
theorem dX8_ahead_62 : decode cX8_ahead 62 = .ok (.bipush (-4), 2) := by decide +kernel
theorem dX8_ahead_64 : decode cX8_ahead 64 = .ok (.invokestatic 143, 3) := by decide +kernel
theorem dX8_ahead_67 : decode cX8_ahead 67 = .ok (.istore_n 3, 1) := by decide +kernel
theorem dX8_ahead_68 : decode cX8_ahead 68 = .ok (.iinc 4 1, 3) := by decide +kernel
theorem dX8_ahead_71 : decode cX8_ahead 71 = .ok (.goto (-19), 3) := by decide +kernel
theorem dX8_ahead_74 : decode cX8_ahead 74 = .ok (.iload_n 2, 1) := by decide +kernel
theorem dX8_ahead_75 : decode cX8_ahead 75 = .ok (.ifCond .ne 7, 3) := by decide +kernel
theorem dX8_ahead_78 : decode cX8_ahead 78 = .ok (.iload_n 3, 1) := by decide +kernel
theorem dX8_ahead_79 : decode cX8_ahead 79 = .ok (.goto 9, 3) := by decide +kernel
theorem dX8_ahead_82 : decode cX8_ahead 82 = .ok (.aload_n 0, 1) := by decide +kernel
theorem dX8_ahead_83 : decode cX8_ahead 83 = .ok (.getfield 29, 3) := by decide +kernel
theorem dX8_ahead_86 : decode cX8_ahead 86 = .ok (.iconst 1, 1) := by decide +kernel
theorem dX8_ahead_87 : decode cX8_ahead 87 = .ok (.iaload, 1) := by decide +kernel
theorem dX8_ahead_88 : decode cX8_ahead 88 = .ok (.ireturn, 1) := by decide +kernel
theorem dX8_isOf_0 : decode cX8_isOf 0 = .ok (.aload_n 0, 1) := by decide +kernel
theorem dX8_isOf_1 : decode cX8_isOf 1 = .ok (.getfield 23, 3) := by decide +kernel
theorem dX8_isOf_4 : decode cX8_isOf 4 = .ok (.bipush 35, 2) := by decide +kernel
theorem dX8_isOf_6 : decode cX8_isOf 6 = .ok (.iload_n 2, 1) := by decide +kernel
theorem dX8_isOf_7 : decode cX8_isOf 7 = .ok (.iadd, 1) := by decide +kernel
theorem dX8_isOf_8 : decode cX8_isOf 8 = .ok (.iaload, 1) := by decide +kernel
theorem dX8_isOf_9 : decode cX8_isOf 9 = .ok (.iload_n 1, 1) := by decide +kernel
theorem dX8_isOf_10 : decode cX8_isOf 10 = .ok (.if_icmp .eq 16, 3) := by decide +kernel
theorem dX8_isOf_13 : decode cX8_isOf 13 = .ok (.aload_n 0, 1) := by decide +kernel
theorem dX8_isOf_14 : decode cX8_isOf 14 = .ok (.getfield 23, 3) := by decide +kernel
theorem dX8_isOf_17 : decode cX8_isOf 17 = .ok (.bipush 47, 2) := by decide +kernel
theorem dX8_isOf_19 : decode cX8_isOf 19 = .ok (.iload_n 2, 1) := by decide +kernel
theorem dX8_isOf_20 : decode cX8_isOf 20 = .ok (.iadd, 1) := by decide +kernel
theorem dX8_isOf_21 : decode cX8_isOf 21 = .ok (.iaload, 1) := by decide +kernel
theorem dX8_isOf_22 : decode cX8_isOf 22 = .ok (.iload_n 1, 1) := by decide +kernel
theorem dX8_isOf_23 : decode cX8_isOf 23 = .ok (.if_icmp .ne 7, 3) := by decide +kernel
theorem dX8_isOf_26 : decode cX8_isOf 26 = .ok (.iconst 1, 1) := by decide +kernel
theorem dX8_isOf_27 : decode cX8_isOf 27 = .ok (.goto 4, 3) := by decide +kernel
theorem dX8_isOf_30 : decode cX8_isOf 30 = .ok (.iconst 0, 1) := by decide +kernel
theorem dX8_isOf_31 : decode cX8_isOf 31 = .ok (.ireturn, 1) := by decide +kernel
set_option maxRecDepth 20000 in
theorem ggX8_ownOnes_X8_isOf : GoodIn wsX8_ownOnes wsX8_isOf := goodIn_r _ [6, 1, 7, 8, 9, 10, 11, 12, 13, 14, 15, 16, 17, 18, 19, 20, 21, 22, 23, 24, 25, 26, 27, 28] (by decide +kernel) (by decide +kernel)
set_option maxRecDepth 20000 in
theorem gX8_ownOnes_X8_isOf : GoodIn wsX8_ownOnes (wsV RX8 160 RX8 yX8_isOf wsX8_isOf) := goodIn_app (goodIn_of _ (by decide +kernel)) ggX8_ownOnes_X8_isOf
theorem dX8_ownOnes_0 : decode cX8_ownOnes 0 = .ok (.iconst 0, 1) := by decide +kernel
theorem dX8_ownOnes_1 : decode cX8_ownOnes 1 = .ok (.istore_n 3, 1) := by decide +kernel
theorem dX8_ownOnes_2 : decode cX8_ownOnes 2 = .ok (.aload_n 0, 1) := by decide +kernel
theorem dX8_ownOnes_3 : decode cX8_ownOnes 3 = .ok (.getfield 23, 3) := by decide +kernel
theorem dX8_ownOnes_6 : decode cX8_ownOnes 6 = .ok (.iconst 0, 1) := by decide +kernel
theorem dX8_ownOnes_7 : decode cX8_ownOnes 7 = .ok (.iaload, 1) := by decide +kernel
theorem dX8_ownOnes_8 : decode cX8_ownOnes 8 = .ok (.istore 4, 2) := by decide +kernel
theorem dX8_ownOnes_10 : decode cX8_ownOnes 10 = .ok (.iload 4, 2) := by decide +kernel
theorem dX8_ownOnes_12 : decode cX8_ownOnes 12 = .ok (.iload_n 2, 1) := by decide +kernel
theorem dX8_ownOnes_13 : decode cX8_ownOnes 13 = .ok (.if_icmp .ge 30, 3) := by decide +kernel
theorem dX8_ownOnes_16 : decode cX8_ownOnes 16 = .ok (.iload_n 3, 1) := by decide +kernel
theorem dX8_ownOnes_17 : decode cX8_ownOnes 17 = .ok (.aload_n 0, 1) := by decide +kernel
theorem dX8_ownOnes_18 : decode cX8_ownOnes 18 = .ok (.iload_n 1, 1) := by decide +kernel
theorem dX8_ownOnes_19 : decode cX8_ownOnes 19 = .ok (.iload 4, 2) := by decide +kernel
theorem dX8_ownOnes_21 : decode cX8_ownOnes 21 = .ok (.invokevirtual 160, 3) := by decide +kernel
theorem dX8_ownOnes_24 : decode cX8_ownOnes 24 = .ok (.ifCond .eq 10, 3) := by decide +kernel
theorem dX8_ownOnes_27 : decode cX8_ownOnes 27 = .ok (.iconst 1, 1) := by decide +kernel
theorem dX8_ownOnes_28 : decode cX8_ownOnes 28 = .ok (.iload 4, 2) := by decide +kernel
theorem dX8_ownOnes_30 : decode cX8_ownOnes 30 = .ok (.ishl, 1) := by decide +kernel
theorem dX8_ownOnes_31 : decode cX8_ownOnes 31 = .ok (.goto 4, 3) := by decide +kernel
theorem dX8_ownOnes_34 : decode cX8_ownOnes 34 = .ok (.iconst 0, 1) := by decide +kernel
theorem dX8_ownOnes_35 : decode cX8_ownOnes 35 = .ok (.ior, 1) := by decide +kernel
theorem dX8_ownOnes_36 : decode cX8_ownOnes 36 = .ok (.istore_n 3, 1) := by decide +kernel
theorem dX8_ownOnes_37 : decode cX8_ownOnes 37 = .ok (.iinc 4 1, 3) := by decide +kernel
theorem dX8_ownOnes_40 : decode cX8_ownOnes 40 = .ok (.goto (-30), 3) := by decide +kernel
theorem dX8_ownOnes_43 : decode cX8_ownOnes 43 = .ok (.iload_n 3, 1) := by decide +kernel
theorem dX8_ownOnes_44 : decode cX8_ownOnes 44 = .ok (.ireturn, 1) := by decide +kernel
set_option maxRecDepth 20000 in
theorem ggX8_throwsOn_X8_begin : GoodIn wsX8_throwsOn wsX8_begin := goodIn_r _ [7, 1, 2, 8, 9, 6, 10, 35, 36, 37, 38, 39, 40, 41, 42, 43, 44, 45, 46, 47, 48, 49, 50, 51, 52, 53, 54, 55, 56] (by decide +kernel) (by decide +kernel)
set_option maxRecDepth 20000 in
theorem gX8_throwsOn_X8_begin : GoodIn wsX8_throwsOn (wsV RX8 157 RX8 yX8_begin wsX8_begin) := goodIn_app (goodIn_of _ (by decide +kernel)) ggX8_throwsOn_X8_begin
set_option maxRecDepth 20000 in
theorem ggX8_throwsOn_X8_has : GoodIn wsX8_throwsOn wsX8_has := goodIn_r _ [13] (by decide +kernel) (by decide +kernel)
set_option maxRecDepth 20000 in
theorem gX8_throwsOn_X8_has : GoodIn wsX8_throwsOn (va_wsS RX8 164 yX8_has wsX8_has) := goodIn_app (goodIn_of _ (by decide +kernel)) ggX8_throwsOn_X8_has
set_option maxRecDepth 20000 in
theorem ggX8_throwsOn_X8_hears : GoodIn wsX8_throwsOn wsX8_hears := goodIn_r _ [16, 17, 18, 6, 19, 20, 21, 22, 23, 24, 25, 26, 27, 28, 29, 30, 31, 32, 33, 34] (by decide +kernel) (by decide +kernel)
set_option maxRecDepth 20000 in
theorem gX8_throwsOn_X8_hears : GoodIn wsX8_throwsOn (va_wsS RX8 143 yX8_hears wsX8_hears) := goodIn_app (goodIn_of _ (by decide +kernel)) ggX8_throwsOn_X8_hears
theorem dX8_throwsOn_0 : decode cX8_throwsOn 0 = .ok (.aload_n 0, 1) := by decide +kernel
theorem dX8_throwsOn_1 : decode cX8_throwsOn 1 = .ok (.invokevirtual 157, 3) := by decide +kernel
theorem dX8_throwsOn_4 : decode cX8_throwsOn 4 = .ok (.iconst 0, 1) := by decide +kernel
theorem dX8_throwsOn_5 : decode cX8_throwsOn 5 = .ok (.istore 4, 2) := by decide +kernel
theorem dX8_throwsOn_7 : decode cX8_throwsOn 7 = .ok (.aload_n 0, 1) := by decide +kernel
theorem dX8_throwsOn_8 : decode cX8_throwsOn 8 = .ok (.getfield 23, 3) := by decide +kernel
theorem dX8_throwsOn_11 : decode cX8_throwsOn 11 = .ok (.iconst 0, 1) := by decide +kernel
theorem dX8_throwsOn_12 : decode cX8_throwsOn 12 = .ok (.iaload, 1) := by decide +kernel
theorem dX8_throwsOn_13 : decode cX8_throwsOn 13 = .ok (.istore 5, 2) := by decide +kernel
theorem dX8_throwsOn_15 : decode cX8_throwsOn 15 = .ok (.iload 5, 2) := by decide +kernel
theorem dX8_throwsOn_17 : decode cX8_throwsOn 17 = .ok (.iload_n 3, 1) := by decide +kernel
theorem dX8_throwsOn_18 : decode cX8_throwsOn 18 = .ok (.if_icmp .ge 45, 3) := by decide +kernel
theorem dX8_throwsOn_21 : decode cX8_throwsOn 21 = .ok (.iload 4, 2) := by decide +kernel
theorem dX8_throwsOn_23 : decode cX8_throwsOn 23 = .ok (.aload_n 0, 1) := by decide +kernel
theorem dX8_throwsOn_24 : decode cX8_throwsOn 24 = .ok (.getfield 29, 3) := by decide +kernel
theorem dX8_throwsOn_27 : decode cX8_throwsOn 27 = .ok (.iload_n 2, 1) := by decide +kernel
theorem dX8_throwsOn_28 : decode cX8_throwsOn 28 = .ok (.iload 5, 2) := by decide +kernel
theorem dX8_throwsOn_30 : decode cX8_throwsOn 30 = .ok (.invokestatic 164, 3) := by decide +kernel
theorem dX8_throwsOn_33 : decode cX8_throwsOn 33 = .ok (.ifCond .eq 7, 3) := by decide +kernel
theorem dX8_throwsOn_36 : decode cX8_throwsOn 36 = .ok (.iload_n 1, 1) := by decide +kernel
theorem dX8_throwsOn_37 : decode cX8_throwsOn 37 = .ok (.goto 5, 3) := by decide +kernel
theorem dX8_throwsOn_40 : decode cX8_throwsOn 40 = .ok (.bipush (-4), 2) := by decide +kernel
theorem dX8_throwsOn_42 : decode cX8_throwsOn 42 = .ok (.invokestatic 143, 3) := by decide +kernel
theorem dX8_throwsOn_45 : decode cX8_throwsOn 45 = .ok (.iload_n 1, 1) := by decide +kernel
theorem dX8_throwsOn_46 : decode cX8_throwsOn 46 = .ok (.if_icmp .ne 7, 3) := by decide +kernel
theorem dX8_throwsOn_49 : decode cX8_throwsOn 49 = .ok (.iconst 1, 1) := by decide +kernel
theorem dX8_throwsOn_50 : decode cX8_throwsOn 50 = .ok (.goto 4, 3) := by decide +kernel
theorem dX8_throwsOn_53 : decode cX8_throwsOn 53 = .ok (.iconst 0, 1) := by decide +kernel
theorem dX8_throwsOn_54 : decode cX8_throwsOn 54 = .ok (.iadd, 1) := by decide +kernel
theorem dX8_throwsOn_55 : decode cX8_throwsOn 55 = .ok (.istore 4, 2) := by decide +kernel
theorem dX8_throwsOn_57 : decode cX8_throwsOn 57 = .ok (.iinc 5 1, 3) := by decide +kernel
theorem dX8_throwsOn_60 : decode cX8_throwsOn 60 = .ok (.goto (-45), 3) := by decide +kernel
theorem dX8_throwsOn_63 : decode cX8_throwsOn 63 = .ok (.iload 4, 2) := by decide +kernel
theorem dX8_throwsOn_65 : decode cX8_throwsOn 65 = .ok (.ireturn, 1) := by decide +kernel
set_option maxRecDepth 20000 in
theorem ggX8_throwing_X8_isParty : GoodIn wsX8_throwing wsX8_isParty := goodIn_r _ [7, 1, 8, 9, 6, 10, 61, 62, 63, 64, 65, 66, 67, 68, 69, 70, 71, 72, 73, 74, 75, 76, 77, 78, 79, 80, 81, 82] (by decide +kernel) (by decide +kernel)
set_option maxRecDepth 20000 in
theorem gX8_throwing_X8_isParty : GoodIn wsX8_throwing (wsV RX8 110 RX8 yX8_isParty wsX8_isParty) := goodIn_app (goodIn_of _ (by decide +kernel)) ggX8_throwing_X8_isParty
set_option maxRecDepth 20000 in
theorem ggX8_throwing_X8_isCase : GoodIn wsX8_throwing wsX8_isCase := goodIn_r _ [14, 1, 8, 9, 6, 10, 61, 62, 63, 64, 65, 66, 67, 68, 69, 70, 71, 72, 73, 74, 75, 76, 77, 78, 79, 80, 81, 82] (by decide +kernel) (by decide +kernel)
set_option maxRecDepth 20000 in
theorem gX8_throwing_X8_isCase : GoodIn wsX8_throwing (wsV RX8 119 RX8 yX8_isCase wsX8_isCase) := goodIn_app (goodIn_of _ (by decide +kernel)) ggX8_throwing_X8_isCase
set_option maxRecDepth 20000 in
theorem ggX8_throwing_X8_isOf : GoodIn wsX8_throwing wsX8_isOf := goodIn_r _ [18, 1, 61, 62, 63, 64, 65, 66, 67, 68, 69, 70, 71, 72, 73, 74, 75, 76, 77, 78, 79, 80, 81, 82] (by decide +kernel) (by decide +kernel)
set_option maxRecDepth 20000 in
theorem gX8_throwing_X8_isOf : GoodIn wsX8_throwing (wsV RX8 160 RX8 yX8_isOf wsX8_isOf) := goodIn_app (goodIn_of _ (by decide +kernel)) ggX8_throwing_X8_isOf
set_option maxRecDepth 20000 in
theorem ggX8_throwing_X8_ownOnes : GoodIn wsX8_throwing wsX8_ownOnes := goodIn_r _ [22, 1, 15, 16, 17, 6, 18, 61, 62, 63, 64, 65, 66, 67, 68, 69, 70, 71, 72, 73, 74, 75, 76, 77, 78, 79, 80, 81, 82] (by decide +kernel) (by decide +kernel)
set_option maxRecDepth 20000 in
theorem gX8_throwing_X8_ownOnes : GoodIn wsX8_throwing (wsV RX8 167 RX8 yX8_ownOnes wsX8_ownOnes) := goodIn_app (goodIn_of _ (by decide +kernel)) ggX8_throwing_X8_ownOnes
set_option maxRecDepth 20000 in
theorem ggX8_throwing_X8_bits : GoodIn wsX8_throwing wsX8_bits := goodIn_r _ [25] (by decide +kernel) (by decide +kernel)
set_option maxRecDepth 20000 in
theorem gX8_throwing_X8_bits : GoodIn wsX8_throwing (va_wsS RX8 170 yX8_bits wsX8_bits) := goodIn_app (goodIn_of _ (by decide +kernel)) ggX8_throwing_X8_bits
set_option maxRecDepth 20000 in
theorem ggX8_throwing_X8_throwsOn : GoodIn wsX8_throwing wsX8_throwsOn := goodIn_r _ [29, 1, 2, 30, 31, 32, 6, 33, 34, 35, 36, 37, 38, 39, 40, 41, 42, 43, 44, 45, 46, 47, 48, 49, 50, 51, 52, 53, 54, 55, 56, 57, 58, 59, 60, 61, 62, 63, 64, 65, 66, 67, 68, 69, 70, 71, 72, 73, 74, 75, 76, 77, 78, 79, 80, 81, 82] (by decide +kernel) (by decide +kernel)
set_option maxRecDepth 20000 in
theorem gX8_throwing_X8_throwsOn : GoodIn wsX8_throwing (wsV RX8 173 RX8 yX8_throwsOn wsX8_throwsOn) := goodIn_app (goodIn_of _ (by decide +kernel)) ggX8_throwing_X8_throwsOn
set_option maxRecDepth 20000 in
theorem ggX8_throwing_X8_hears : GoodIn wsX8_throwing wsX8_hears := goodIn_r _ [42, 43, 44, 6, 45, 46, 47, 48, 49, 50, 51, 52, 53, 54, 55, 56, 57, 58, 59, 60] (by decide +kernel) (by decide +kernel)
set_option maxRecDepth 20000 in
theorem gX8_throwing_X8_hears : GoodIn wsX8_throwing (va_wsS RX8 143 yX8_hears wsX8_hears) := goodIn_app (goodIn_of _ (by decide +kernel)) ggX8_throwing_X8_hears
theorem dX8_throwing_0 : decode cX8_throwing 0 = .ok (.aload_n 0, 1) := by decide +kernel
theorem dX8_throwing_1 : decode cX8_throwing 1 = .ok (.iload_n 1, 1) := by decide +kernel
theorem dX8_throwing_2 : decode cX8_throwing 2 = .ok (.invokevirtual 110, 3) := by decide +kernel
theorem dX8_throwing_5 : decode cX8_throwing 5 = .ok (.ifCond .eq 11, 3) := by decide +kernel
theorem dX8_throwing_8 : decode cX8_throwing 8 = .ok (.aload_n 0, 1) := by decide +kernel
theorem dX8_throwing_9 : decode cX8_throwing 9 = .ok (.iload_n 2, 1) := by decide +kernel
theorem dX8_throwing_10 : decode cX8_throwing 10 = .ok (.invokevirtual 119, 3) := by decide +kernel
theorem dX8_throwing_13 : decode cX8_throwing 13 = .ok (.ifCond .ne 5, 3) := by decide +kernel
theorem dX8_throwing_16 : decode cX8_throwing 16 = .ok (.iconst (-1), 1) := by decide +kernel
theorem dX8_throwing_17 : decode cX8_throwing 17 = .ok (.ireturn, 1) := by decide +kernel
theorem dX8_throwing_18 : decode cX8_throwing 18 = .ok (.aload_n 0, 1) := by decide +kernel
theorem dX8_throwing_19 : decode cX8_throwing 19 = .ok (.iload_n 1, 1) := by decide +kernel
theorem dX8_throwing_20 : decode cX8_throwing 20 = .ok (.iload_n 2, 1) := by decide +kernel
theorem dX8_throwing_21 : decode cX8_throwing 21 = .ok (.invokevirtual 160, 3) := by decide +kernel
theorem dX8_throwing_24 : decode cX8_throwing 24 = .ok (.ifCond .eq 13, 3) := by decide +kernel
theorem dX8_throwing_27 : decode cX8_throwing 27 = .ok (.iload_n 2, 1) := by decide +kernel
theorem dX8_throwing_28 : decode cX8_throwing 28 = .ok (.aload_n 0, 1) := by decide +kernel
theorem dX8_throwing_29 : decode cX8_throwing 29 = .ok (.getfield 23, 3) := by decide +kernel
theorem dX8_throwing_32 : decode cX8_throwing 32 = .ok (.iconst 0, 1) := by decide +kernel
theorem dX8_throwing_33 : decode cX8_throwing 33 = .ok (.iaload, 1) := by decide +kernel
theorem dX8_throwing_34 : decode cX8_throwing 34 = .ok (.if_icmp .ge 6, 3) := by decide +kernel
theorem dX8_throwing_37 : decode cX8_throwing 37 = .ok (.bipush (-2), 2) := by decide +kernel
theorem dX8_throwing_39 : decode cX8_throwing 39 = .ok (.ireturn, 1) := by decide +kernel
theorem dX8_throwing_40 : decode cX8_throwing 40 = .ok (.aload_n 0, 1) := by decide +kernel
theorem dX8_throwing_41 : decode cX8_throwing 41 = .ok (.iload_n 1, 1) := by decide +kernel
theorem dX8_throwing_42 : decode cX8_throwing 42 = .ok (.iload_n 2, 1) := by decide +kernel
theorem dX8_throwing_43 : decode cX8_throwing 43 = .ok (.invokevirtual 167, 3) := by decide +kernel
theorem dX8_throwing_46 : decode cX8_throwing 46 = .ok (.istore_n 3, 1) := by decide +kernel
theorem dX8_throwing_47 : decode cX8_throwing 47 = .ok (.bipush (-4), 2) := by decide +kernel
theorem dX8_throwing_49 : decode cX8_throwing 49 = .ok (.istore 4, 2) := by decide +kernel
theorem dX8_throwing_51 : decode cX8_throwing 51 = .ok (.iconst 0, 1) := by decide +kernel
theorem dX8_throwing_52 : decode cX8_throwing 52 = .ok (.istore 5, 2) := by decide +kernel
theorem dX8_throwing_54 : decode cX8_throwing 54 = .ok (.iload 5, 2) := by decide +kernel
theorem dX8_throwing_56 : decode cX8_throwing 56 = .ok (.iconst 1, 1) := by decide +kernel
theorem dX8_throwing_57 : decode cX8_throwing 57 = .ok (.iload_n 2, 1) := by decide +kernel
theorem dX8_throwing_58 : decode cX8_throwing 58 = .ok (.ishl, 1) := by decide +kernel
theorem dX8_throwing_59 : decode cX8_throwing 59 = .ok (.if_icmp .ge 81, 3) := by decide +kernel
theorem dX8_throwing_62 : decode cX8_throwing 62 = .ok (.iload 5, 2) := by decide +kernel
theorem dX8_throwing_64 : decode cX8_throwing 64 = .ok (.iload_n 3, 1) := by decide +kernel
theorem dX8_throwing_65 : decode cX8_throwing 65 = .ok (.iconst (-1), 1) := by decide +kernel
theorem dX8_throwing_66 : decode cX8_throwing 66 = .ok (.ixor, 1) := by decide +kernel
theorem dX8_throwing_67 : decode cX8_throwing 67 = .ok (.iand, 1) := by decide +kernel
theorem dX8_throwing_68 : decode cX8_throwing 68 = .ok (.ifCond .ne 27, 3) := by decide +kernel
theorem dX8_throwing_71 : decode cX8_throwing 71 = .ok (.iload 4, 2) := by decide +kernel
theorem dX8_throwing_73 : decode cX8_throwing 73 = .ok (.bipush (-4), 2) := by decide +kernel
theorem dX8_throwing_75 : decode cX8_throwing 75 = .ok (.if_icmp .eq 16, 3) := by decide +kernel
theorem dX8_throwing_78 : decode cX8_throwing 78 = .ok (.iload 5, 2) := by decide +kernel
theorem dX8_throwing_80 : decode cX8_throwing 80 = .ok (.invokestatic 170, 3) := by decide +kernel
theorem dX8_throwing_83 : decode cX8_throwing 83 = .ok (.iload 4, 2) := by decide +kernel
theorem dX8_throwing_85 : decode cX8_throwing 85 = .ok (.invokestatic 170, 3) := by decide +kernel
theorem dX8_throwing_88 : decode cX8_throwing 88 = .ok (.if_icmp .ge 7, 3) := by decide +kernel
theorem dX8_throwing_91 : decode cX8_throwing 91 = .ok (.iconst 1, 1) := by decide +kernel
theorem dX8_throwing_92 : decode cX8_throwing 92 = .ok (.goto 4, 3) := by decide +kernel
theorem dX8_throwing_95 : decode cX8_throwing 95 = .ok (.iconst 0, 1) := by decide +kernel
theorem dX8_throwing_96 : decode cX8_throwing 96 = .ok (.istore 6, 2) := by decide +kernel
theorem dX8_throwing_98 : decode cX8_throwing 98 = .ok (.iload 6, 2) := by decide +kernel
theorem dX8_throwing_100 : decode cX8_throwing 100 = .ok (.ifCond .eq 34, 3) := by decide +kernel
theorem dX8_throwing_103 : decode cX8_throwing 103 = .ok (.aload_n 0, 1) := by decide +kernel
theorem dX8_throwing_104 : decode cX8_throwing 104 = .ok (.iload_n 1, 1) := by decide +kernel
theorem dX8_throwing_105 : decode cX8_throwing 105 = .ok (.iload 5, 2) := by decide +kernel
theorem dX8_throwing_107 : decode cX8_throwing 107 = .ok (.iload_n 2, 1) := by decide +kernel
theorem dX8_throwing_108 : decode cX8_throwing 108 = .ok (.invokevirtual 173, 3) := by decide +kernel
theorem dX8_throwing_111 : decode cX8_throwing 111 = .ok (.pop, 1) := by decide +kernel
theorem dX8_throwing_112 : decode cX8_throwing 112 = .ok (.aload_n 0, 1) := by decide +kernel
theorem dX8_throwing_113 : decode cX8_throwing 113 = .ok (.getfield 29, 3) := by decide +kernel
theorem dX8_throwing_116 : decode cX8_throwing 116 = .ok (.bipush (-4), 2) := by decide +kernel
theorem dX8_throwing_118 : decode cX8_throwing 118 = .ok (.invokestatic 143, 3) := by decide +kernel
theorem dX8_throwing_121 : decode cX8_throwing 121 = .ok (.iload_n 1, 1) := by decide +kernel
theorem dX8_throwing_122 : decode cX8_throwing 122 = .ok (.if_icmp .ne 8, 3) := by decide +kernel
theorem dX8_throwing_125 : decode cX8_throwing 125 = .ok (.iload 5, 2) := by decide +kernel
theorem dX8_throwing_127 : decode cX8_throwing 127 = .ok (.goto 5, 3) := by decide +kernel
theorem dX8_throwing_130 : decode cX8_throwing 130 = .ok (.iload 4, 2) := by decide +kernel
theorem dX8_throwing_132 : decode cX8_throwing 132 = .ok (.istore 4, 2) := by decide +kernel
theorem dX8_throwing_134 : decode cX8_throwing 134 = .ok (.iinc 5 1, 3) := by decide +kernel
theorem dX8_throwing_137 : decode cX8_throwing 137 = .ok (.goto (-83), 3) := by decide +kernel
theorem dX8_throwing_140 : decode cX8_throwing 140 = .ok (.iload 4, 2) := by decide +kernel
theorem dX8_throwing_142 : decode cX8_throwing 142 = .ok (.ireturn, 1) := by decide +kernel
set_option maxRecDepth 20000 in
theorem ggX8_worth_X8_isParty : GoodIn wsX8_worth wsX8_isParty := goodIn_r _ [6, 1, 7, 8, 5, 9, 54, 55, 56, 57, 58, 59, 60, 61, 62, 63, 64, 65, 66, 67, 68, 69, 70, 71, 72, 73, 74, 75] (by decide +kernel) (by decide +kernel)
set_option maxRecDepth 20000 in
theorem gX8_worth_X8_isParty : GoodIn wsX8_worth (wsV RX8 110 RX8 yX8_isParty wsX8_isParty) := goodIn_app (goodIn_of _ (by decide +kernel)) ggX8_worth_X8_isParty
set_option maxRecDepth 20000 in
theorem ggX8_worth_X8_ownOnes : GoodIn wsX8_worth wsX8_ownOnes := goodIn_r _ [13, 1, 14, 15, 16, 5, 17, 54, 55, 56, 57, 58, 59, 60, 61, 62, 63, 64, 65, 66, 67, 68, 69, 70, 71, 72, 73, 74, 75] (by decide +kernel) (by decide +kernel)
set_option maxRecDepth 20000 in
theorem gX8_worth_X8_ownOnes : GoodIn wsX8_worth (wsV RX8 167 RX8 yX8_ownOnes wsX8_ownOnes) := goodIn_app (goodIn_of _ (by decide +kernel)) ggX8_worth_X8_ownOnes
set_option maxRecDepth 20000 in
theorem ggX8_worth_X8_throwsOn : GoodIn wsX8_worth wsX8_throwsOn := goodIn_r _ [21, 1, 22, 23, 24, 25, 5, 26, 27, 28, 29, 30, 31, 32, 33, 34, 35, 36, 37, 38, 39, 40, 41, 42, 43, 44, 45, 46, 47, 48, 49, 50, 51, 52, 53, 54, 55, 56, 57, 58, 59, 60, 61, 62, 63, 64, 65, 66, 67, 68, 69, 70, 71, 72, 73, 74, 75] (by decide +kernel) (by decide +kernel)
set_option maxRecDepth 20000 in
theorem gX8_worth_X8_throwsOn : GoodIn wsX8_worth (wsV RX8 173 RX8 yX8_throwsOn wsX8_throwsOn) := goodIn_app (goodIn_of _ (by decide +kernel)) ggX8_worth_X8_throwsOn
theorem dX8_worth_0 : decode cX8_worth 0 = .ok (.aload_n 0, 1) := by decide +kernel
theorem dX8_worth_1 : decode cX8_worth 1 = .ok (.iload_n 1, 1) := by decide +kernel
theorem dX8_worth_2 : decode cX8_worth 2 = .ok (.invokevirtual 110, 3) := by decide +kernel
theorem dX8_worth_5 : decode cX8_worth 5 = .ok (.ifCond .ne 5, 3) := by decide +kernel
theorem dX8_worth_8 : decode cX8_worth 8 = .ok (.iconst (-1), 1) := by decide +kernel
theorem dX8_worth_9 : decode cX8_worth 9 = .ok (.ireturn, 1) := by decide +kernel
theorem dX8_worth_10 : decode cX8_worth 10 = .ok (.aload_n 0, 1) := by decide +kernel
theorem dX8_worth_11 : decode cX8_worth 11 = .ok (.iload_n 1, 1) := by decide +kernel
theorem dX8_worth_12 : decode cX8_worth 12 = .ok (.aload_n 0, 1) := by decide +kernel
theorem dX8_worth_13 : decode cX8_worth 13 = .ok (.getfield 23, 3) := by decide +kernel
theorem dX8_worth_16 : decode cX8_worth 16 = .ok (.iconst 4, 1) := by decide +kernel
theorem dX8_worth_17 : decode cX8_worth 17 = .ok (.iaload, 1) := by decide +kernel
theorem dX8_worth_18 : decode cX8_worth 18 = .ok (.invokevirtual 167, 3) := by decide +kernel
theorem dX8_worth_21 : decode cX8_worth 21 = .ok (.istore_n 2, 1) := by decide +kernel
theorem dX8_worth_22 : decode cX8_worth 22 = .ok (.iconst 0, 1) := by decide +kernel
theorem dX8_worth_23 : decode cX8_worth 23 = .ok (.istore_n 3, 1) := by decide +kernel
theorem dX8_worth_24 : decode cX8_worth 24 = .ok (.iconst 0, 1) := by decide +kernel
theorem dX8_worth_25 : decode cX8_worth 25 = .ok (.istore 4, 2) := by decide +kernel
theorem dX8_worth_27 : decode cX8_worth 27 = .ok (.iload 4, 2) := by decide +kernel
theorem dX8_worth_29 : decode cX8_worth 29 = .ok (.iconst 1, 1) := by decide +kernel
theorem dX8_worth_30 : decode cX8_worth 30 = .ok (.aload_n 0, 1) := by decide +kernel
theorem dX8_worth_31 : decode cX8_worth 31 = .ok (.getfield 23, 3) := by decide +kernel
theorem dX8_worth_34 : decode cX8_worth 34 = .ok (.iconst 4, 1) := by decide +kernel
theorem dX8_worth_35 : decode cX8_worth 35 = .ok (.iaload, 1) := by decide +kernel
theorem dX8_worth_36 : decode cX8_worth 36 = .ok (.ishl, 1) := by decide +kernel
theorem dX8_worth_37 : decode cX8_worth 37 = .ok (.if_icmp .ge 50, 3) := by decide +kernel
theorem dX8_worth_40 : decode cX8_worth 40 = .ok (.iload 4, 2) := by decide +kernel
theorem dX8_worth_42 : decode cX8_worth 42 = .ok (.iload_n 2, 1) := by decide +kernel
theorem dX8_worth_43 : decode cX8_worth 43 = .ok (.iconst (-1), 1) := by decide +kernel
theorem dX8_worth_44 : decode cX8_worth 44 = .ok (.ixor, 1) := by decide +kernel
theorem dX8_worth_45 : decode cX8_worth 45 = .ok (.iand, 1) := by decide +kernel
theorem dX8_worth_46 : decode cX8_worth 46 = .ok (.ifCond .ne 19, 3) := by decide +kernel
theorem dX8_worth_49 : decode cX8_worth 49 = .ok (.aload_n 0, 1) := by decide +kernel
theorem dX8_worth_50 : decode cX8_worth 50 = .ok (.iload_n 1, 1) := by decide +kernel
theorem dX8_worth_51 : decode cX8_worth 51 = .ok (.iload 4, 2) := by decide +kernel
theorem dX8_worth_53 : decode cX8_worth 53 = .ok (.aload_n 0, 1) := by decide +kernel
theorem dX8_worth_54 : decode cX8_worth 54 = .ok (.getfield 23, 3) := by decide +kernel
theorem dX8_worth_57 : decode cX8_worth 57 = .ok (.iconst 4, 1) := by decide +kernel
theorem dX8_worth_58 : decode cX8_worth 58 = .ok (.iaload, 1) := by decide +kernel
theorem dX8_worth_59 : decode cX8_worth 59 = .ok (.invokevirtual 173, 3) := by decide +kernel
theorem dX8_worth_62 : decode cX8_worth 62 = .ok (.goto 4, 3) := by decide +kernel
theorem dX8_worth_65 : decode cX8_worth 65 = .ok (.iconst 0, 1) := by decide +kernel
theorem dX8_worth_66 : decode cX8_worth 66 = .ok (.istore 5, 2) := by decide +kernel
theorem dX8_worth_68 : decode cX8_worth 68 = .ok (.iload 5, 2) := by decide +kernel
theorem dX8_worth_70 : decode cX8_worth 70 = .ok (.iload_n 3, 1) := by decide +kernel
theorem dX8_worth_71 : decode cX8_worth 71 = .ok (.if_icmp .le 8, 3) := by decide +kernel
theorem dX8_worth_74 : decode cX8_worth 74 = .ok (.iload 5, 2) := by decide +kernel
theorem dX8_worth_76 : decode cX8_worth 76 = .ok (.goto 4, 3) := by decide +kernel
theorem dX8_worth_79 : decode cX8_worth 79 = .ok (.iload_n 3, 1) := by decide +kernel
theorem dX8_worth_80 : decode cX8_worth 80 = .ok (.istore_n 3, 1) := by decide +kernel
theorem dX8_worth_81 : decode cX8_worth 81 = .ok (.iinc 4 1, 3) := by decide +kernel
theorem dX8_worth_84 : decode cX8_worth 84 = .ok (.goto (-57), 3) := by decide +kernel
theorem dX8_worth_87 : decode cX8_worth 87 = .ok (.iload_n 3, 1) := by decide +kernel
theorem dX8_worth_88 : decode cX8_worth 88 = .ok (.ireturn, 1) := by decide +kernel
set_option maxRecDepth 20000 in
theorem ggX8_dueled_X8_begin : GoodIn wsX8_dueled wsX8_begin := goodIn_r _ [6, 7, 1, 8, 9, 5, 10, 32, 33, 34, 35, 36, 37, 38, 39, 40, 41, 42, 43, 44, 45, 46, 47, 48, 49, 50, 51, 52, 53] (by decide +kernel) (by decide +kernel)
set_option maxRecDepth 20000 in
theorem gX8_dueled_X8_begin : GoodIn wsX8_dueled (wsV RX8 157 RX8 yX8_begin wsX8_begin) := goodIn_app (goodIn_of _ (by decide +kernel)) ggX8_dueled_X8_begin
set_option maxRecDepth 20000 in
theorem ggX8_dueled_X8_hears : GoodIn wsX8_dueled wsX8_hears := goodIn_r _ [13, 14, 15, 5, 16, 17, 18, 19, 20, 21, 22, 23, 24, 25, 26, 27, 28, 29, 30, 31] (by decide +kernel) (by decide +kernel)
set_option maxRecDepth 20000 in
theorem gX8_dueled_X8_hears : GoodIn wsX8_dueled (va_wsS RX8 143 yX8_hears wsX8_hears) := goodIn_app (goodIn_of _ (by decide +kernel)) ggX8_dueled_X8_hears
theorem dX8_dueled_0 : decode cX8_dueled 0 = .ok (.aload_n 0, 1) := by decide +kernel
theorem dX8_dueled_1 : decode cX8_dueled 1 = .ok (.invokevirtual 157, 3) := by decide +kernel
theorem dX8_dueled_4 : decode cX8_dueled 4 = .ok (.iload 5, 2) := by decide +kernel
theorem dX8_dueled_6 : decode cX8_dueled 6 = .ok (.istore 6, 2) := by decide +kernel
theorem dX8_dueled_8 : decode cX8_dueled 8 = .ok (.iload 4, 2) := by decide +kernel
theorem dX8_dueled_10 : decode cX8_dueled 10 = .ok (.istore 7, 2) := by decide +kernel
theorem dX8_dueled_12 : decode cX8_dueled 12 = .ok (.iconst 0, 1) := by decide +kernel
theorem dX8_dueled_13 : decode cX8_dueled 13 = .ok (.istore 8, 2) := by decide +kernel
theorem dX8_dueled_15 : decode cX8_dueled 15 = .ok (.iconst 0, 1) := by decide +kernel
theorem dX8_dueled_16 : decode cX8_dueled 16 = .ok (.istore 9, 2) := by decide +kernel
theorem dX8_dueled_18 : decode cX8_dueled 18 = .ok (.iload 9, 2) := by decide +kernel
theorem dX8_dueled_20 : decode cX8_dueled 20 = .ok (.iload_n 3, 1) := by decide +kernel
theorem dX8_dueled_21 : decode cX8_dueled 21 = .ok (.if_icmp .ge 85, 3) := by decide +kernel
theorem dX8_dueled_24 : decode cX8_dueled 24 = .ok (.iload 7, 2) := by decide +kernel
theorem dX8_dueled_26 : decode cX8_dueled 26 = .ok (.iconst 3, 1) := by decide +kernel
theorem dX8_dueled_27 : decode cX8_dueled 27 = .ok (.idiv, 1) := by decide +kernel
theorem dX8_dueled_28 : decode cX8_dueled 28 = .ok (.istore 7, 2) := by decide +kernel
theorem dX8_dueled_30 : decode cX8_dueled 30 = .ok (.iload 6, 2) := by decide +kernel
theorem dX8_dueled_32 : decode cX8_dueled 32 = .ok (.iload 7, 2) := by decide +kernel
theorem dX8_dueled_34 : decode cX8_dueled 34 = .ok (.idiv, 1) := by decide +kernel
theorem dX8_dueled_35 : decode cX8_dueled 35 = .ok (.istore 10, 2) := by decide +kernel
theorem dX8_dueled_37 : decode cX8_dueled 37 = .ok (.iload 6, 2) := by decide +kernel
theorem dX8_dueled_39 : decode cX8_dueled 39 = .ok (.iload 7, 2) := by decide +kernel
theorem dX8_dueled_41 : decode cX8_dueled 41 = .ok (.irem, 1) := by decide +kernel
theorem dX8_dueled_42 : decode cX8_dueled 42 = .ok (.istore 6, 2) := by decide +kernel
theorem dX8_dueled_44 : decode cX8_dueled 44 = .ok (.aload_n 0, 1) := by decide +kernel
theorem dX8_dueled_45 : decode cX8_dueled 45 = .ok (.getfield 29, 3) := by decide +kernel
theorem dX8_dueled_48 : decode cX8_dueled 48 = .ok (.iload 10, 2) := by decide +kernel
theorem dX8_dueled_50 : decode cX8_dueled 50 = .ok (.ifCond .ne 8, 3) := by decide +kernel
theorem dX8_dueled_53 : decode cX8_dueled 53 = .ok (.bipush (-4), 2) := by decide +kernel
theorem dX8_dueled_55 : decode cX8_dueled 55 = .ok (.goto 14, 3) := by decide +kernel
theorem dX8_dueled_58 : decode cX8_dueled 58 = .ok (.iload 10, 2) := by decide +kernel
theorem dX8_dueled_60 : decode cX8_dueled 60 = .ok (.iconst 1, 1) := by decide +kernel
theorem dX8_dueled_61 : decode cX8_dueled 61 = .ok (.if_icmp .ne 7, 3) := by decide +kernel
theorem dX8_dueled_64 : decode cX8_dueled 64 = .ok (.iload_n 1, 1) := by decide +kernel
theorem dX8_dueled_65 : decode cX8_dueled 65 = .ok (.goto 4, 3) := by decide +kernel
theorem dX8_dueled_68 : decode cX8_dueled 68 = .ok (.iload_n 2, 1) := by decide +kernel
theorem dX8_dueled_69 : decode cX8_dueled 69 = .ok (.invokestatic 143, 3) := by decide +kernel
theorem dX8_dueled_72 : decode cX8_dueled 72 = .ok (.istore 11, 2) := by decide +kernel
theorem dX8_dueled_74 : decode cX8_dueled 74 = .ok (.iload 8, 2) := by decide +kernel
theorem dX8_dueled_76 : decode cX8_dueled 76 = .ok (.iload 11, 2) := by decide +kernel
theorem dX8_dueled_78 : decode cX8_dueled 78 = .ok (.iload_n 1, 1) := by decide +kernel
theorem dX8_dueled_79 : decode cX8_dueled 79 = .ok (.if_icmp .ne 7, 3) := by decide +kernel
theorem dX8_dueled_82 : decode cX8_dueled 82 = .ok (.iconst 1, 1) := by decide +kernel
theorem dX8_dueled_83 : decode cX8_dueled 83 = .ok (.goto 14, 3) := by decide +kernel
theorem dX8_dueled_86 : decode cX8_dueled 86 = .ok (.iload 11, 2) := by decide +kernel
theorem dX8_dueled_88 : decode cX8_dueled 88 = .ok (.iload_n 2, 1) := by decide +kernel
theorem dX8_dueled_89 : decode cX8_dueled 89 = .ok (.if_icmp .ne 7, 3) := by decide +kernel
theorem dX8_dueled_92 : decode cX8_dueled 92 = .ok (.iconst (-1), 1) := by decide +kernel
theorem dX8_dueled_93 : decode cX8_dueled 93 = .ok (.goto 4, 3) := by decide +kernel
theorem dX8_dueled_96 : decode cX8_dueled 96 = .ok (.iconst 0, 1) := by decide +kernel
theorem dX8_dueled_97 : decode cX8_dueled 97 = .ok (.iadd, 1) := by decide +kernel
theorem dX8_dueled_98 : decode cX8_dueled 98 = .ok (.istore 8, 2) := by decide +kernel
theorem dX8_dueled_100 : decode cX8_dueled 100 = .ok (.iinc 9 1, 3) := by decide +kernel
theorem dX8_dueled_103 : decode cX8_dueled 103 = .ok (.goto (-85), 3) := by decide +kernel
theorem dX8_dueled_106 : decode cX8_dueled 106 = .ok (.iload 8, 2) := by decide +kernel
theorem dX8_dueled_108 : decode cX8_dueled 108 = .ok (.ireturn, 1) := by decide +kernel
set_option maxRecDepth 20000 in
theorem ggX8_duel_X8_isParty : GoodIn wsX8_duel wsX8_isParty := goodIn_r _ [7, 2, 8, 9, 6, 10, 52, 53, 54, 55, 56, 57, 58, 59, 60, 61, 62, 63, 64, 65, 66, 67, 68, 69, 70, 71, 72, 73] (by decide +kernel) (by decide +kernel)
set_option maxRecDepth 20000 in
theorem gX8_duel_X8_isParty : GoodIn wsX8_duel (wsV RX8 110 RX8 yX8_isParty wsX8_isParty) := goodIn_app (goodIn_of _ (by decide +kernel)) ggX8_duel_X8_isParty
set_option maxRecDepth 20000 in
theorem ggX8_duel_X8_in : GoodIn wsX8_duel wsX8_in := goodIn_r _ [10] (by decide +kernel) (by decide +kernel)
set_option maxRecDepth 20000 in
theorem gX8_duel_X8_in : GoodIn wsX8_duel (va_wsS RX8 60 yX8_in wsX8_in) := goodIn_app (goodIn_of _ (by decide +kernel)) ggX8_duel_X8_in
set_option maxRecDepth 20000 in
theorem ggX8_duel_X8_casesLeft : GoodIn wsX8_duel wsX8_casesLeft := goodIn_r _ [14, 2, 52, 53, 54, 55, 56, 57, 58, 59, 60, 61, 62, 63, 64, 65, 66, 67, 68, 69, 70, 71, 72, 73] (by decide +kernel) (by decide +kernel)
set_option maxRecDepth 20000 in
theorem gX8_duel_X8_casesLeft : GoodIn wsX8_duel (wsV RX8 137 RX8 yX8_casesLeft wsX8_casesLeft) := goodIn_app (goodIn_of _ (by decide +kernel)) ggX8_duel_X8_casesLeft
set_option maxRecDepth 20000 in
theorem ggX8_duel_X8_dueled : GoodIn wsX8_duel wsX8_dueled := goodIn_r _ [18, 19, 20, 21, 22, 6, 23, 2, 24, 25, 26, 27, 28, 29, 30, 31, 32, 33, 34, 35, 36, 37, 38, 39, 40, 41, 42, 43, 44, 45, 46, 47, 52, 53, 54, 55, 56, 57, 58, 59, 60, 61, 62, 63, 64, 65, 66, 67, 68, 69, 70, 71, 72, 73] (by decide +kernel) (by decide +kernel)
set_option maxRecDepth 20000 in
theorem gX8_duel_X8_dueled : GoodIn wsX8_duel (wsV RX8 177 RX8 yX8_dueled wsX8_dueled) := goodIn_app (goodIn_of _ (by decide +kernel)) ggX8_duel_X8_dueled
set_option maxRecDepth 20000 in
theorem ggX8_duel_X8_isOf : GoodIn wsX8_duel wsX8_isOf := goodIn_r _ [51, 2, 52, 53, 54, 55, 56, 57, 58, 59, 60, 61, 62, 63, 64, 65, 66, 67, 68, 69, 70, 71, 72, 73] (by decide +kernel) (by decide +kernel)
set_option maxRecDepth 20000 in
theorem gX8_duel_X8_isOf : GoodIn wsX8_duel (wsV RX8 160 RX8 yX8_isOf wsX8_isOf) := goodIn_app (goodIn_of _ (by decide +kernel)) ggX8_duel_X8_isOf
theorem dX8_duel_0 : decode cX8_duel 0 = .ok (.aload_n 0, 1) := by decide +kernel
theorem dX8_duel_1 : decode cX8_duel 1 = .ok (.iload_n 1, 1) := by decide +kernel
theorem dX8_duel_2 : decode cX8_duel 2 = .ok (.invokevirtual 110, 3) := by decide +kernel
theorem dX8_duel_5 : decode cX8_duel 5 = .ok (.ifCond .eq 26, 3) := by decide +kernel
theorem dX8_duel_8 : decode cX8_duel 8 = .ok (.aload_n 0, 1) := by decide +kernel
theorem dX8_duel_9 : decode cX8_duel 9 = .ok (.iload_n 2, 1) := by decide +kernel
theorem dX8_duel_10 : decode cX8_duel 10 = .ok (.invokevirtual 110, 3) := by decide +kernel
theorem dX8_duel_13 : decode cX8_duel 13 = .ok (.ifCond .eq 18, 3) := by decide +kernel
theorem dX8_duel_16 : decode cX8_duel 16 = .ok (.iload_n 1, 1) := by decide +kernel
theorem dX8_duel_17 : decode cX8_duel 17 = .ok (.iload_n 2, 1) := by decide +kernel
theorem dX8_duel_18 : decode cX8_duel 18 = .ok (.if_icmp .eq 13, 3) := by decide +kernel
theorem dX8_duel_21 : decode cX8_duel 21 = .ok (.iload_n 3, 1) := by decide +kernel
theorem dX8_duel_22 : decode cX8_duel 22 = .ok (.iconst 0, 1) := by decide +kernel
theorem dX8_duel_23 : decode cX8_duel 23 = .ok (.bipush 8, 2) := by decide +kernel
theorem dX8_duel_25 : decode cX8_duel 25 = .ok (.invokestatic 60, 3) := by decide +kernel
theorem dX8_duel_28 : decode cX8_duel 28 = .ok (.ifCond .ne 5, 3) := by decide +kernel
theorem dX8_duel_31 : decode cX8_duel 31 = .ok (.iconst (-1), 1) := by decide +kernel
theorem dX8_duel_32 : decode cX8_duel 32 = .ok (.ireturn, 1) := by decide +kernel
theorem dX8_duel_33 : decode cX8_duel 33 = .ok (.iload_n 3, 1) := by decide +kernel
theorem dX8_duel_34 : decode cX8_duel 34 = .ok (.aload_n 0, 1) := by decide +kernel
theorem dX8_duel_35 : decode cX8_duel 35 = .ok (.invokevirtual 137, 3) := by decide +kernel
theorem dX8_duel_38 : decode cX8_duel 38 = .ok (.if_icmp .ge 7, 3) := by decide +kernel
theorem dX8_duel_41 : decode cX8_duel 41 = .ok (.iload_n 3, 1) := by decide +kernel
theorem dX8_duel_42 : decode cX8_duel 42 = .ok (.goto 7, 3) := by decide +kernel
theorem dX8_duel_45 : decode cX8_duel 45 = .ok (.aload_n 0, 1) := by decide +kernel
theorem dX8_duel_46 : decode cX8_duel 46 = .ok (.invokevirtual 137, 3) := by decide +kernel
theorem dX8_duel_49 : decode cX8_duel 49 = .ok (.istore 4, 2) := by decide +kernel
theorem dX8_duel_51 : decode cX8_duel 51 = .ok (.iconst 1, 1) := by decide +kernel
theorem dX8_duel_52 : decode cX8_duel 52 = .ok (.istore 5, 2) := by decide +kernel
theorem dX8_duel_54 : decode cX8_duel 54 = .ok (.iconst 0, 1) := by decide +kernel
theorem dX8_duel_55 : decode cX8_duel 55 = .ok (.istore 6, 2) := by decide +kernel
theorem dX8_duel_57 : decode cX8_duel 57 = .ok (.iload 6, 2) := by decide +kernel
theorem dX8_duel_59 : decode cX8_duel 59 = .ok (.iload 4, 2) := by decide +kernel
theorem dX8_duel_61 : decode cX8_duel 61 = .ok (.if_icmp .ge 15, 3) := by decide +kernel
theorem dX8_duel_64 : decode cX8_duel 64 = .ok (.iload 5, 2) := by decide +kernel
theorem dX8_duel_66 : decode cX8_duel 66 = .ok (.iconst 3, 1) := by decide +kernel
theorem dX8_duel_67 : decode cX8_duel 67 = .ok (.imul, 1) := by decide +kernel
theorem dX8_duel_68 : decode cX8_duel 68 = .ok (.istore 5, 2) := by decide +kernel
theorem dX8_duel_70 : decode cX8_duel 70 = .ok (.iinc 6 1, 3) := by decide +kernel
theorem dX8_duel_73 : decode cX8_duel 73 = .ok (.goto (-16), 3) := by decide +kernel
theorem dX8_duel_76 : decode cX8_duel 76 = .ok (.iconst 0, 1) := by decide +kernel
theorem dX8_duel_77 : decode cX8_duel 77 = .ok (.istore 6, 2) := by decide +kernel
theorem dX8_duel_79 : decode cX8_duel 79 = .ok (.iload 6, 2) := by decide +kernel
theorem dX8_duel_81 : decode cX8_duel 81 = .ok (.iload 5, 2) := by decide +kernel
theorem dX8_duel_83 : decode cX8_duel 83 = .ok (.if_icmp .ge 28, 3) := by decide +kernel
theorem dX8_duel_86 : decode cX8_duel 86 = .ok (.aload_n 0, 1) := by decide +kernel
theorem dX8_duel_87 : decode cX8_duel 87 = .ok (.getfield 42, 3) := by decide +kernel
theorem dX8_duel_90 : decode cX8_duel 90 = .ok (.iload 6, 2) := by decide +kernel
theorem dX8_duel_92 : decode cX8_duel 92 = .ok (.aload_n 0, 1) := by decide +kernel
theorem dX8_duel_93 : decode cX8_duel 93 = .ok (.iload_n 1, 1) := by decide +kernel
theorem dX8_duel_94 : decode cX8_duel 94 = .ok (.iload_n 2, 1) := by decide +kernel
theorem dX8_duel_95 : decode cX8_duel 95 = .ok (.iload 4, 2) := by decide +kernel
theorem dX8_duel_97 : decode cX8_duel 97 = .ok (.iload 5, 2) := by decide +kernel
theorem dX8_duel_99 : decode cX8_duel 99 = .ok (.iload 6, 2) := by decide +kernel
theorem dX8_duel_101 : decode cX8_duel 101 = .ok (.invokevirtual 177, 3) := by decide +kernel
theorem dX8_duel_104 : decode cX8_duel 104 = .ok (.iastore, 1) := by decide +kernel
theorem dX8_duel_105 : decode cX8_duel 105 = .ok (.iinc 6 1, 3) := by decide +kernel
theorem dX8_duel_108 : decode cX8_duel 108 = .ok (.goto (-29), 3) := by decide +kernel
theorem dX8_duel_111 : decode cX8_duel 111 = .ok (.iload 5, 2) := by decide +kernel
theorem dX8_duel_113 : decode cX8_duel 113 = .ok (.istore 6, 2) := by decide +kernel
theorem dX8_duel_115 : decode cX8_duel 115 = .ok (.iload 4, 2) := by decide +kernel
theorem dX8_duel_117 : decode cX8_duel 117 = .ok (.iconst 1, 1) := by decide +kernel
theorem dX8_duel_118 : decode cX8_duel 118 = .ok (.isub, 1) := by decide +kernel
theorem dX8_duel_119 : decode cX8_duel 119 = .ok (.istore 7, 2) := by decide +kernel
theorem dX8_duel_121 : decode cX8_duel 121 = .ok (.iload 7, 2) := by decide +kernel
theorem dX8_duel_123 : decode cX8_duel 123 = .ok (.ifCond .lt 136, 3) := by decide +kernel
theorem dX8_duel_126 : decode cX8_duel 126 = .ok (.aload_n 0, 1) := by decide +kernel
theorem dX8_duel_127 : decode cX8_duel 127 = .ok (.getfield 23, 3) := by decide +kernel
theorem dX8_duel_130 : decode cX8_duel 130 = .ok (.iconst 0, 1) := by decide +kernel
theorem dX8_duel_131 : decode cX8_duel 131 = .ok (.iaload, 1) := by decide +kernel
theorem dX8_duel_132 : decode cX8_duel 132 = .ok (.iload 7, 2) := by decide +kernel
theorem dX8_duel_134 : decode cX8_duel 134 = .ok (.iadd, 1) := by decide +kernel
theorem dX8_duel_135 : decode cX8_duel 135 = .ok (.istore 8, 2) := by decide +kernel
theorem dX8_duel_137 : decode cX8_duel 137 = .ok (.iload 6, 2) := by decide +kernel
theorem dX8_duel_139 : decode cX8_duel 139 = .ok (.iconst 3, 1) := by decide +kernel
theorem dX8_duel_140 : decode cX8_duel 140 = .ok (.idiv, 1) := by decide +kernel
theorem dX8_duel_141 : decode cX8_duel 141 = .ok (.istore 6, 2) := by decide +kernel
theorem dX8_duel_143 : decode cX8_duel 143 = .ok (.iconst 0, 1) := by decide +kernel
theorem dX8_duel_144 : decode cX8_duel 144 = .ok (.istore 9, 2) := by decide +kernel
theorem dX8_duel_146 : decode cX8_duel 146 = .ok (.iload 9, 2) := by decide +kernel
theorem dX8_duel_148 : decode cX8_duel 148 = .ok (.iload 6, 2) := by decide +kernel
theorem dX8_duel_150 : decode cX8_duel 150 = .ok (.if_icmp .ge 103, 3) := by decide +kernel
theorem dX8_duel_153 : decode cX8_duel 153 = .ok (.aload_n 0, 1) := by decide +kernel
theorem dX8_duel_154 : decode cX8_duel 154 = .ok (.getfield 42, 3) := by decide +kernel
theorem dX8_duel_157 : decode cX8_duel 157 = .ok (.iconst 3, 1) := by decide +kernel
theorem dX8_duel_158 : decode cX8_duel 158 = .ok (.iload 9, 2) := by decide +kernel
theorem dX8_duel_160 : decode cX8_duel 160 = .ok (.imul, 1) := by decide +kernel
theorem dX8_duel_161 : decode cX8_duel 161 = .ok (.iaload, 1) := by decide +kernel
theorem dX8_duel_162 : decode cX8_duel 162 = .ok (.istore 10, 2) := by decide +kernel
theorem dX8_duel_164 : decode cX8_duel 164 = .ok (.aload_n 0, 1) := by decide +kernel
theorem dX8_duel_165 : decode cX8_duel 165 = .ok (.getfield 42, 3) := by decide +kernel
theorem dX8_duel_168 : decode cX8_duel 168 = .ok (.iconst 3, 1) := by decide +kernel
theorem dX8_duel_169 : decode cX8_duel 169 = .ok (.iload 9, 2) := by decide +kernel
theorem dX8_duel_171 : decode cX8_duel 171 = .ok (.imul, 1) := by decide +kernel
theorem dX8_duel_172 : decode cX8_duel 172 = .ok (.iconst 1, 1) := by decide +kernel
theorem dX8_duel_173 : decode cX8_duel 173 = .ok (.iadd, 1) := by decide +kernel
theorem dX8_duel_174 : decode cX8_duel 174 = .ok (.iaload, 1) := by decide +kernel
theorem dX8_duel_175 : decode cX8_duel 175 = .ok (.istore 11, 2) := by decide +kernel
theorem dX8_duel_177 : decode cX8_duel 177 = .ok (.aload_n 0, 1) := by decide +kernel
theorem dX8_duel_178 : decode cX8_duel 178 = .ok (.getfield 42, 3) := by decide +kernel
theorem dX8_duel_181 : decode cX8_duel 181 = .ok (.iconst 3, 1) := by decide +kernel
theorem dX8_duel_182 : decode cX8_duel 182 = .ok (.iload 9, 2) := by decide +kernel
theorem dX8_duel_184 : decode cX8_duel 184 = .ok (.imul, 1) := by decide +kernel
theorem dX8_duel_185 : decode cX8_duel 185 = .ok (.iconst 2, 1) := by decide +kernel
theorem dX8_duel_186 : decode cX8_duel 186 = .ok (.iadd, 1) := by decide +kernel
theorem dX8_duel_187 : decode cX8_duel 187 = .ok (.iaload, 1) := by decide +kernel
theorem dX8_duel_188 : decode cX8_duel 188 = .ok (.istore 12, 2) := by decide +kernel
theorem dX8_duel_190 : decode cX8_duel 190 = .ok (.aload_n 0, 1) := by decide +kernel
theorem dX8_duel_191 : decode cX8_duel 191 = .ok (.iload_n 2, 1) := by decide +kernel
theorem dX8_duel_192 : decode cX8_duel 192 = .ok (.iload 8, 2) := by decide +kernel
theorem dX8_duel_194 : decode cX8_duel 194 = .ok (.invokevirtual 160, 3) := by decide +kernel
theorem dX8_duel_197 : decode cX8_duel 197 = .ok (.ifCond .eq 15, 3) := by decide +kernel
theorem dX8_duel_200 : decode cX8_duel 200 = .ok (.iload 12, 2) := by decide +kernel
theorem dX8_duel_202 : decode cX8_duel 202 = .ok (.iload 10, 2) := by decide +kernel
theorem dX8_duel_204 : decode cX8_duel 204 = .ok (.if_icmp .ge 8, 3) := by decide +kernel
theorem dX8_duel_207 : decode cX8_duel 207 = .ok (.iload 12, 2) := by decide +kernel
theorem dX8_duel_209 : decode cX8_duel 209 = .ok (.goto 5, 3) := by decide +kernel
theorem dX8_duel_212 : decode cX8_duel 212 = .ok (.iload 10, 2) := by decide +kernel
theorem dX8_duel_214 : decode cX8_duel 214 = .ok (.istore 13, 2) := by decide +kernel
theorem dX8_duel_216 : decode cX8_duel 216 = .ok (.aload_n 0, 1) := by decide +kernel
theorem dX8_duel_217 : decode cX8_duel 217 = .ok (.getfield 42, 3) := by decide +kernel
theorem dX8_duel_220 : decode cX8_duel 220 = .ok (.iload 9, 2) := by decide +kernel
theorem dX8_duel_222 : decode cX8_duel 222 = .ok (.aload_n 0, 1) := by decide +kernel
theorem dX8_duel_223 : decode cX8_duel 223 = .ok (.iload_n 1, 1) := by decide +kernel
theorem dX8_duel_224 : decode cX8_duel 224 = .ok (.iload 8, 2) := by decide +kernel
theorem dX8_duel_226 : decode cX8_duel 226 = .ok (.invokevirtual 160, 3) := by decide +kernel
theorem dX8_duel_229 : decode cX8_duel 229 = .ok (.ifCond .eq 15, 3) := by decide +kernel
theorem dX8_duel_232 : decode cX8_duel 232 = .ok (.iload 11, 2) := by decide +kernel
theorem dX8_duel_234 : decode cX8_duel 234 = .ok (.iload 13, 2) := by decide +kernel
theorem dX8_duel_236 : decode cX8_duel 236 = .ok (.if_icmp .le 8, 3) := by decide +kernel
theorem dX8_duel_239 : decode cX8_duel 239 = .ok (.iload 11, 2) := by decide +kernel
theorem dX8_duel_241 : decode cX8_duel 241 = .ok (.goto 5, 3) := by decide +kernel
theorem dX8_duel_244 : decode cX8_duel 244 = .ok (.iload 13, 2) := by decide +kernel
theorem dX8_duel_246 : decode cX8_duel 246 = .ok (.iastore, 1) := by decide +kernel
theorem dX8_duel_247 : decode cX8_duel 247 = .ok (.iinc 9 1, 3) := by decide +kernel
theorem dX8_duel_250 : decode cX8_duel 250 = .ok (.goto (-104), 3) := by decide +kernel
theorem dX8_duel_253 : decode cX8_duel 253 = .ok (.iinc 7 (-1), 3) := by decide +kernel
theorem dX8_duel_256 : decode cX8_duel 256 = .ok (.goto (-135), 3) := by decide +kernel
theorem dX8_duel_259 : decode cX8_duel 259 = .ok (.bipush 100, 2) := by decide +kernel
theorem dX8_duel_261 : decode cX8_duel 261 = .ok (.aload_n 0, 1) := by decide +kernel
theorem dX8_duel_262 : decode cX8_duel 262 = .ok (.getfield 42, 3) := by decide +kernel
theorem dX8_duel_265 : decode cX8_duel 265 = .ok (.iconst 0, 1) := by decide +kernel
theorem dX8_duel_266 : decode cX8_duel 266 = .ok (.iaload, 1) := by decide +kernel
theorem dX8_duel_267 : decode cX8_duel 267 = .ok (.iadd, 1) := by decide +kernel
theorem dX8_duel_268 : decode cX8_duel 268 = .ok (.ireturn, 1) := by decide +kernel
theorem dX8_isJust_0 : decode cX8_isJust 0 = .ok (.aload_n 0, 1) := by decide +kernel
theorem dX8_isJust_1 : decode cX8_isJust 1 = .ok (.bipush 71, 2) := by decide +kernel
theorem dX8_isJust_3 : decode cX8_isJust 3 = .ok (.iload_n 1, 1) := by decide +kernel
theorem dX8_isJust_4 : decode cX8_isJust 4 = .ok (.iadd, 1) := by decide +kernel
theorem dX8_isJust_5 : decode cX8_isJust 5 = .ok (.iaload, 1) := by decide +kernel
theorem dX8_isJust_6 : decode cX8_isJust 6 = .ok (.aload_n 0, 1) := by decide +kernel
theorem dX8_isJust_7 : decode cX8_isJust 7 = .ok (.bipush 59, 2) := by decide +kernel
theorem dX8_isJust_9 : decode cX8_isJust 9 = .ok (.iload_n 1, 1) := by decide +kernel
theorem dX8_isJust_10 : decode cX8_isJust 10 = .ok (.iadd, 1) := by decide +kernel
theorem dX8_isJust_11 : decode cX8_isJust 11 = .ok (.iaload, 1) := by decide +kernel
theorem dX8_isJust_12 : decode cX8_isJust 12 = .ok (.iconst 5, 1) := by decide +kernel
theorem dX8_isJust_13 : decode cX8_isJust 13 = .ok (.if_icmp .lt 12, 3) := by decide +kernel
theorem dX8_isJust_16 : decode cX8_isJust 16 = .ok (.aload_n 0, 1) := by decide +kernel
theorem dX8_isJust_17 : decode cX8_isJust 17 = .ok (.bipush 35, 2) := by decide +kernel
theorem dX8_isJust_19 : decode cX8_isJust 19 = .ok (.iload_n 1, 1) := by decide +kernel
theorem dX8_isJust_20 : decode cX8_isJust 20 = .ok (.iadd, 1) := by decide +kernel
theorem dX8_isJust_21 : decode cX8_isJust 21 = .ok (.iaload, 1) := by decide +kernel
theorem dX8_isJust_22 : decode cX8_isJust 22 = .ok (.goto 9, 3) := by decide +kernel
theorem dX8_isJust_25 : decode cX8_isJust 25 = .ok (.aload_n 0, 1) := by decide +kernel
theorem dX8_isJust_26 : decode cX8_isJust 26 = .ok (.bipush 47, 2) := by decide +kernel
theorem dX8_isJust_28 : decode cX8_isJust 28 = .ok (.iload_n 1, 1) := by decide +kernel
theorem dX8_isJust_29 : decode cX8_isJust 29 = .ok (.iadd, 1) := by decide +kernel
theorem dX8_isJust_30 : decode cX8_isJust 30 = .ok (.iaload, 1) := by decide +kernel
theorem dX8_isJust_31 : decode cX8_isJust 31 = .ok (.if_icmp .ne 7, 3) := by decide +kernel
theorem dX8_isJust_34 : decode cX8_isJust 34 = .ok (.iconst 1, 1) := by decide +kernel
theorem dX8_isJust_35 : decode cX8_isJust 35 = .ok (.goto 4, 3) := by decide +kernel
theorem dX8_isJust_38 : decode cX8_isJust 38 = .ok (.iconst 0, 1) := by decide +kernel
theorem dX8_isJust_39 : decode cX8_isJust 39 = .ok (.ireturn, 1) := by decide +kernel
set_option maxRecDepth 20000 in
theorem ggX8_isNextOrder_X8_change : GoodIn wsX8_isNextOrder wsX8_change := goodIn_r _ [5] (by decide +kernel) (by decide +kernel)
set_option maxRecDepth 20000 in
theorem gX8_isNextOrder_X8_change : GoodIn wsX8_isNextOrder (va_wsS RX8 147 yX8_change wsX8_change) := goodIn_app (goodIn_of _ (by decide +kernel)) ggX8_isNextOrder_X8_change
theorem dX8_isNextOrder_0 : decode cX8_isNextOrder 0 = .ok (.iload_n 1, 1) := by decide +kernel
theorem dX8_isNextOrder_1 : decode cX8_isNextOrder 1 = .ok (.iconst 2, 1) := by decide +kernel
theorem dX8_isNextOrder_2 : decode cX8_isNextOrder 2 = .ok (.isub, 1) := by decide +kernel
theorem dX8_isNextOrder_3 : decode cX8_isNextOrder 3 = .ok (.istore_n 2, 1) := by decide +kernel
theorem dX8_isNextOrder_4 : decode cX8_isNextOrder 4 = .ok (.iload_n 2, 1) := by decide +kernel
theorem dX8_isNextOrder_5 : decode cX8_isNextOrder 5 = .ok (.ifCond .lt 26, 3) := by decide +kernel
theorem dX8_isNextOrder_8 : decode cX8_isNextOrder 8 = .ok (.aload_n 0, 1) := by decide +kernel
theorem dX8_isNextOrder_9 : decode cX8_isNextOrder 9 = .ok (.getfield 45, 3) := by decide +kernel
theorem dX8_isNextOrder_12 : decode cX8_isNextOrder 12 = .ok (.iload_n 2, 1) := by decide +kernel
theorem dX8_isNextOrder_13 : decode cX8_isNextOrder 13 = .ok (.iaload, 1) := by decide +kernel
theorem dX8_isNextOrder_14 : decode cX8_isNextOrder 14 = .ok (.aload_n 0, 1) := by decide +kernel
theorem dX8_isNextOrder_15 : decode cX8_isNextOrder 15 = .ok (.getfield 45, 3) := by decide +kernel
theorem dX8_isNextOrder_18 : decode cX8_isNextOrder 18 = .ok (.iload_n 2, 1) := by decide +kernel
theorem dX8_isNextOrder_19 : decode cX8_isNextOrder 19 = .ok (.iconst 1, 1) := by decide +kernel
theorem dX8_isNextOrder_20 : decode cX8_isNextOrder 20 = .ok (.iadd, 1) := by decide +kernel
theorem dX8_isNextOrder_21 : decode cX8_isNextOrder 21 = .ok (.iaload, 1) := by decide +kernel
theorem dX8_isNextOrder_22 : decode cX8_isNextOrder 22 = .ok (.if_icmp .le 9, 3) := by decide +kernel
theorem dX8_isNextOrder_25 : decode cX8_isNextOrder 25 = .ok (.iinc 2 (-1), 3) := by decide +kernel
theorem dX8_isNextOrder_28 : decode cX8_isNextOrder 28 = .ok (.goto (-24), 3) := by decide +kernel
theorem dX8_isNextOrder_31 : decode cX8_isNextOrder 31 = .ok (.iload_n 2, 1) := by decide +kernel
theorem dX8_isNextOrder_32 : decode cX8_isNextOrder 32 = .ok (.ifCond .ge 5, 3) := by decide +kernel
theorem dX8_isNextOrder_35 : decode cX8_isNextOrder 35 = .ok (.iconst 0, 1) := by decide +kernel
theorem dX8_isNextOrder_36 : decode cX8_isNextOrder 36 = .ok (.ireturn, 1) := by decide +kernel
theorem dX8_isNextOrder_37 : decode cX8_isNextOrder 37 = .ok (.iload_n 1, 1) := by decide +kernel
theorem dX8_isNextOrder_38 : decode cX8_isNextOrder 38 = .ok (.iconst 1, 1) := by decide +kernel
theorem dX8_isNextOrder_39 : decode cX8_isNextOrder 39 = .ok (.isub, 1) := by decide +kernel
theorem dX8_isNextOrder_40 : decode cX8_isNextOrder 40 = .ok (.istore_n 3, 1) := by decide +kernel
theorem dX8_isNextOrder_41 : decode cX8_isNextOrder 41 = .ok (.aload_n 0, 1) := by decide +kernel
theorem dX8_isNextOrder_42 : decode cX8_isNextOrder 42 = .ok (.getfield 45, 3) := by decide +kernel
theorem dX8_isNextOrder_45 : decode cX8_isNextOrder 45 = .ok (.iload_n 3, 1) := by decide +kernel
theorem dX8_isNextOrder_46 : decode cX8_isNextOrder 46 = .ok (.iaload, 1) := by decide +kernel
theorem dX8_isNextOrder_47 : decode cX8_isNextOrder 47 = .ok (.aload_n 0, 1) := by decide +kernel
theorem dX8_isNextOrder_48 : decode cX8_isNextOrder 48 = .ok (.getfield 45, 3) := by decide +kernel
theorem dX8_isNextOrder_51 : decode cX8_isNextOrder 51 = .ok (.iload_n 2, 1) := by decide +kernel
theorem dX8_isNextOrder_52 : decode cX8_isNextOrder 52 = .ok (.iaload, 1) := by decide +kernel
theorem dX8_isNextOrder_53 : decode cX8_isNextOrder 53 = .ok (.if_icmp .ge 9, 3) := by decide +kernel
theorem dX8_isNextOrder_56 : decode cX8_isNextOrder 56 = .ok (.iinc 3 (-1), 3) := by decide +kernel
theorem dX8_isNextOrder_59 : decode cX8_isNextOrder 59 = .ok (.goto (-18), 3) := by decide +kernel
theorem dX8_isNextOrder_62 : decode cX8_isNextOrder 62 = .ok (.aload_n 0, 1) := by decide +kernel
theorem dX8_isNextOrder_63 : decode cX8_isNextOrder 63 = .ok (.getfield 45, 3) := by decide +kernel
theorem dX8_isNextOrder_66 : decode cX8_isNextOrder 66 = .ok (.iconst 0, 1) := by decide +kernel
theorem dX8_isNextOrder_67 : decode cX8_isNextOrder 67 = .ok (.iload_n 2, 1) := by decide +kernel
theorem dX8_isNextOrder_68 : decode cX8_isNextOrder 68 = .ok (.iload_n 3, 1) := by decide +kernel
theorem dX8_isNextOrder_69 : decode cX8_isNextOrder 69 = .ok (.invokestatic 147, 3) := by decide +kernel
theorem dX8_isNextOrder_72 : decode cX8_isNextOrder 72 = .ok (.iload_n 2, 1) := by decide +kernel
theorem dX8_isNextOrder_73 : decode cX8_isNextOrder 73 = .ok (.iconst 1, 1) := by decide +kernel
theorem dX8_isNextOrder_74 : decode cX8_isNextOrder 74 = .ok (.iadd, 1) := by decide +kernel
theorem dX8_isNextOrder_75 : decode cX8_isNextOrder 75 = .ok (.istore 4, 2) := by decide +kernel
theorem dX8_isNextOrder_77 : decode cX8_isNextOrder 77 = .ok (.iload_n 1, 1) := by decide +kernel
theorem dX8_isNextOrder_78 : decode cX8_isNextOrder 78 = .ok (.iconst 1, 1) := by decide +kernel
theorem dX8_isNextOrder_79 : decode cX8_isNextOrder 79 = .ok (.isub, 1) := by decide +kernel
theorem dX8_isNextOrder_80 : decode cX8_isNextOrder 80 = .ok (.istore 5, 2) := by decide +kernel
theorem dX8_isNextOrder_82 : decode cX8_isNextOrder 82 = .ok (.iload 4, 2) := by decide +kernel
theorem dX8_isNextOrder_84 : decode cX8_isNextOrder 84 = .ok (.iload 5, 2) := by decide +kernel
theorem dX8_isNextOrder_86 : decode cX8_isNextOrder 86 = .ok (.if_icmp .ge 24, 3) := by decide +kernel
theorem dX8_isNextOrder_89 : decode cX8_isNextOrder 89 = .ok (.aload_n 0, 1) := by decide +kernel
theorem dX8_isNextOrder_90 : decode cX8_isNextOrder 90 = .ok (.getfield 45, 3) := by decide +kernel
theorem dX8_isNextOrder_93 : decode cX8_isNextOrder 93 = .ok (.iconst 0, 1) := by decide +kernel
theorem dX8_isNextOrder_94 : decode cX8_isNextOrder 94 = .ok (.iload 4, 2) := by decide +kernel
theorem dX8_isNextOrder_96 : decode cX8_isNextOrder 96 = .ok (.iload 5, 2) := by decide +kernel
theorem dX8_isNextOrder_98 : decode cX8_isNextOrder 98 = .ok (.invokestatic 147, 3) := by decide +kernel
theorem dX8_isNextOrder_101 : decode cX8_isNextOrder 101 = .ok (.iinc 4 1, 3) := by decide +kernel
theorem dX8_isNextOrder_104 : decode cX8_isNextOrder 104 = .ok (.iinc 5 (-1), 3) := by decide +kernel
theorem dX8_isNextOrder_107 : decode cX8_isNextOrder 107 = .ok (.goto (-25), 3) := by decide +kernel
theorem dX8_isNextOrder_110 : decode cX8_isNextOrder 110 = .ok (.iconst 1, 1) := by decide +kernel
theorem dX8_isNextOrder_111 : decode cX8_isNextOrder 111 = .ok (.ireturn, 1) := by decide +kernel
set_option maxRecDepth 20000 in
theorem ggX8_justBy_X8_begin : GoodIn wsX8_justBy wsX8_begin := goodIn_r _ [8, 2, 1, 9, 10, 7, 11, 36, 37, 38, 39, 40, 41, 42, 43, 44, 45, 46, 47, 48, 49, 50, 51, 52, 53, 54, 55, 56, 57] (by decide +kernel) (by decide +kernel)
set_option maxRecDepth 20000 in
theorem gX8_justBy_X8_begin : GoodIn wsX8_justBy (wsV RX8 157 RX8 yX8_begin wsX8_begin) := goodIn_app (goodIn_of _ (by decide +kernel)) ggX8_justBy_X8_begin
set_option maxRecDepth 20000 in
theorem ggX8_justBy_X8_hears : GoodIn wsX8_justBy wsX8_hears := goodIn_r _ [14, 15, 16, 7, 17, 18, 19, 20, 21, 22, 23, 24, 25, 26, 27, 28, 29, 30, 31, 32] (by decide +kernel) (by decide +kernel)
set_option maxRecDepth 20000 in
theorem gX8_justBy_X8_hears : GoodIn wsX8_justBy (va_wsS RX8 143 yX8_hears wsX8_hears) := goodIn_app (goodIn_of _ (by decide +kernel)) ggX8_justBy_X8_hears
set_option maxRecDepth 20000 in
theorem ggX8_justBy_X8_isJust : GoodIn wsX8_justBy wsX8_isJust := goodIn_r _ [35] (by decide +kernel) (by decide +kernel)
set_option maxRecDepth 20000 in
theorem gX8_justBy_X8_isJust : GoodIn wsX8_justBy (va_wsS RX8 181 yX8_isJust wsX8_isJust) := goodIn_app (goodIn_of _ (by decide +kernel)) ggX8_justBy_X8_isJust
theorem dX8_justBy_0 : decode cX8_justBy 0 = .ok (.aload_n 0, 1) := by decide +kernel
theorem dX8_justBy_1 : decode cX8_justBy 1 = .ok (.invokevirtual 157, 3) := by decide +kernel
theorem dX8_justBy_4 : decode cX8_justBy 4 = .ok (.iconst 0, 1) := by decide +kernel
theorem dX8_justBy_5 : decode cX8_justBy 5 = .ok (.istore_n 2, 1) := by decide +kernel
theorem dX8_justBy_6 : decode cX8_justBy 6 = .ok (.iload_n 2, 1) := by decide +kernel
theorem dX8_justBy_7 : decode cX8_justBy 7 = .ok (.iload_n 1, 1) := by decide +kernel
theorem dX8_justBy_8 : decode cX8_justBy 8 = .ok (.if_icmp .ge 99, 3) := by decide +kernel
theorem dX8_justBy_11 : decode cX8_justBy 11 = .ok (.aload_n 0, 1) := by decide +kernel
theorem dX8_justBy_12 : decode cX8_justBy 12 = .ok (.getfield 29, 3) := by decide +kernel
theorem dX8_justBy_15 : decode cX8_justBy 15 = .ok (.bipush 35, 2) := by decide +kernel
theorem dX8_justBy_17 : decode cX8_justBy 17 = .ok (.aload_n 0, 1) := by decide +kernel
theorem dX8_justBy_18 : decode cX8_justBy 18 = .ok (.getfield 23, 3) := by decide +kernel
theorem dX8_justBy_21 : decode cX8_justBy 21 = .ok (.iconst 0, 1) := by decide +kernel
theorem dX8_justBy_22 : decode cX8_justBy 22 = .ok (.iaload, 1) := by decide +kernel
theorem dX8_justBy_23 : decode cX8_justBy 23 = .ok (.iadd, 1) := by decide +kernel
theorem dX8_justBy_24 : decode cX8_justBy 24 = .ok (.iload_n 2, 1) := by decide +kernel
theorem dX8_justBy_25 : decode cX8_justBy 25 = .ok (.iadd, 1) := by decide +kernel
theorem dX8_justBy_26 : decode cX8_justBy 26 = .ok (.aload_n 0, 1) := by decide +kernel
theorem dX8_justBy_27 : decode cX8_justBy 27 = .ok (.getfield 23, 3) := by decide +kernel
theorem dX8_justBy_30 : decode cX8_justBy 30 = .ok (.bipush 35, 2) := by decide +kernel
theorem dX8_justBy_32 : decode cX8_justBy 32 = .ok (.aload_n 0, 1) := by decide +kernel
theorem dX8_justBy_33 : decode cX8_justBy 33 = .ok (.getfield 45, 3) := by decide +kernel
theorem dX8_justBy_36 : decode cX8_justBy 36 = .ok (.iload_n 2, 1) := by decide +kernel
theorem dX8_justBy_37 : decode cX8_justBy 37 = .ok (.iaload, 1) := by decide +kernel
theorem dX8_justBy_38 : decode cX8_justBy 38 = .ok (.iadd, 1) := by decide +kernel
theorem dX8_justBy_39 : decode cX8_justBy 39 = .ok (.iaload, 1) := by decide +kernel
theorem dX8_justBy_40 : decode cX8_justBy 40 = .ok (.iastore, 1) := by decide +kernel
theorem dX8_justBy_41 : decode cX8_justBy 41 = .ok (.aload_n 0, 1) := by decide +kernel
theorem dX8_justBy_42 : decode cX8_justBy 42 = .ok (.getfield 29, 3) := by decide +kernel
theorem dX8_justBy_45 : decode cX8_justBy 45 = .ok (.bipush 47, 2) := by decide +kernel
theorem dX8_justBy_47 : decode cX8_justBy 47 = .ok (.aload_n 0, 1) := by decide +kernel
theorem dX8_justBy_48 : decode cX8_justBy 48 = .ok (.getfield 23, 3) := by decide +kernel
theorem dX8_justBy_51 : decode cX8_justBy 51 = .ok (.iconst 0, 1) := by decide +kernel
theorem dX8_justBy_52 : decode cX8_justBy 52 = .ok (.iaload, 1) := by decide +kernel
theorem dX8_justBy_53 : decode cX8_justBy 53 = .ok (.iadd, 1) := by decide +kernel
theorem dX8_justBy_54 : decode cX8_justBy 54 = .ok (.iload_n 2, 1) := by decide +kernel
theorem dX8_justBy_55 : decode cX8_justBy 55 = .ok (.iadd, 1) := by decide +kernel
theorem dX8_justBy_56 : decode cX8_justBy 56 = .ok (.aload_n 0, 1) := by decide +kernel
theorem dX8_justBy_57 : decode cX8_justBy 57 = .ok (.getfield 23, 3) := by decide +kernel
theorem dX8_justBy_60 : decode cX8_justBy 60 = .ok (.bipush 47, 2) := by decide +kernel
theorem dX8_justBy_62 : decode cX8_justBy 62 = .ok (.aload_n 0, 1) := by decide +kernel
theorem dX8_justBy_63 : decode cX8_justBy 63 = .ok (.getfield 45, 3) := by decide +kernel
theorem dX8_justBy_66 : decode cX8_justBy 66 = .ok (.iload_n 2, 1) := by decide +kernel
theorem dX8_justBy_67 : decode cX8_justBy 67 = .ok (.iaload, 1) := by decide +kernel
theorem dX8_justBy_68 : decode cX8_justBy 68 = .ok (.iadd, 1) := by decide +kernel
theorem dX8_justBy_69 : decode cX8_justBy 69 = .ok (.iaload, 1) := by decide +kernel
theorem dX8_justBy_70 : decode cX8_justBy 70 = .ok (.iastore, 1) := by decide +kernel
theorem dX8_justBy_71 : decode cX8_justBy 71 = .ok (.aload_n 0, 1) := by decide +kernel
theorem dX8_justBy_72 : decode cX8_justBy 72 = .ok (.getfield 29, 3) := by decide +kernel
theorem dX8_justBy_75 : decode cX8_justBy 75 = .ok (.bipush 59, 2) := by decide +kernel
theorem dX8_justBy_77 : decode cX8_justBy 77 = .ok (.aload_n 0, 1) := by decide +kernel
theorem dX8_justBy_78 : decode cX8_justBy 78 = .ok (.getfield 23, 3) := by decide +kernel
theorem dX8_justBy_81 : decode cX8_justBy 81 = .ok (.iconst 0, 1) := by decide +kernel
theorem dX8_justBy_82 : decode cX8_justBy 82 = .ok (.iaload, 1) := by decide +kernel
theorem dX8_justBy_83 : decode cX8_justBy 83 = .ok (.iadd, 1) := by decide +kernel
theorem dX8_justBy_84 : decode cX8_justBy 84 = .ok (.iload_n 2, 1) := by decide +kernel
theorem dX8_justBy_85 : decode cX8_justBy 85 = .ok (.iadd, 1) := by decide +kernel
theorem dX8_justBy_86 : decode cX8_justBy 86 = .ok (.aload_n 0, 1) := by decide +kernel
theorem dX8_justBy_87 : decode cX8_justBy 87 = .ok (.getfield 23, 3) := by decide +kernel
theorem dX8_justBy_90 : decode cX8_justBy 90 = .ok (.bipush 59, 2) := by decide +kernel
theorem dX8_justBy_92 : decode cX8_justBy 92 = .ok (.aload_n 0, 1) := by decide +kernel
theorem dX8_justBy_93 : decode cX8_justBy 93 = .ok (.getfield 45, 3) := by decide +kernel
theorem dX8_justBy_96 : decode cX8_justBy 96 = .ok (.iload_n 2, 1) := by decide +kernel
theorem dX8_justBy_97 : decode cX8_justBy 97 = .ok (.iaload, 1) := by decide +kernel
theorem dX8_justBy_98 : decode cX8_justBy 98 = .ok (.iadd, 1) := by decide +kernel
theorem dX8_justBy_99 : decode cX8_justBy 99 = .ok (.iaload, 1) := by decide +kernel
theorem dX8_justBy_100 : decode cX8_justBy 100 = .ok (.iastore, 1) := by decide +kernel
theorem dX8_justBy_101 : decode cX8_justBy 101 = .ok (.iinc 2 1, 3) := by decide +kernel
theorem dX8_justBy_104 : decode cX8_justBy 104 = .ok (.goto (-98), 3) := by decide +kernel
theorem dX8_justBy_107 : decode cX8_justBy 107 = .ok (.iconst 0, 1) := by decide +kernel
theorem dX8_justBy_108 : decode cX8_justBy 108 = .ok (.istore_n 2, 1) := by decide +kernel
theorem dX8_justBy_109 : decode cX8_justBy 109 = .ok (.iconst 0, 1) := by decide +kernel
theorem dX8_justBy_110 : decode cX8_justBy 110 = .ok (.istore_n 3, 1) := by decide +kernel
theorem dX8_justBy_111 : decode cX8_justBy 111 = .ok (.iload_n 3, 1) := by decide +kernel
theorem dX8_justBy_112 : decode cX8_justBy 112 = .ok (.iload_n 1, 1) := by decide +kernel
theorem dX8_justBy_113 : decode cX8_justBy 113 = .ok (.if_icmp .ge 45, 3) := by decide +kernel
theorem dX8_justBy_116 : decode cX8_justBy 116 = .ok (.aload_n 0, 1) := by decide +kernel
theorem dX8_justBy_117 : decode cX8_justBy 117 = .ok (.getfield 29, 3) := by decide +kernel
theorem dX8_justBy_120 : decode cX8_justBy 120 = .ok (.bipush (-4), 2) := by decide +kernel
theorem dX8_justBy_122 : decode cX8_justBy 122 = .ok (.invokestatic 143, 3) := by decide +kernel
theorem dX8_justBy_125 : decode cX8_justBy 125 = .ok (.pop, 1) := by decide +kernel
theorem dX8_justBy_126 : decode cX8_justBy 126 = .ok (.iload_n 2, 1) := by decide +kernel
theorem dX8_justBy_127 : decode cX8_justBy 127 = .ok (.aload_n 0, 1) := by decide +kernel
theorem dX8_justBy_128 : decode cX8_justBy 128 = .ok (.getfield 29, 3) := by decide +kernel
theorem dX8_justBy_131 : decode cX8_justBy 131 = .ok (.aload_n 0, 1) := by decide +kernel
theorem dX8_justBy_132 : decode cX8_justBy 132 = .ok (.getfield 23, 3) := by decide +kernel
theorem dX8_justBy_135 : decode cX8_justBy 135 = .ok (.iconst 0, 1) := by decide +kernel
theorem dX8_justBy_136 : decode cX8_justBy 136 = .ok (.iaload, 1) := by decide +kernel
theorem dX8_justBy_137 : decode cX8_justBy 137 = .ok (.iload_n 3, 1) := by decide +kernel
theorem dX8_justBy_138 : decode cX8_justBy 138 = .ok (.iadd, 1) := by decide +kernel
theorem dX8_justBy_139 : decode cX8_justBy 139 = .ok (.invokestatic 181, 3) := by decide +kernel
theorem dX8_justBy_142 : decode cX8_justBy 142 = .ok (.ifCond .eq 7, 3) := by decide +kernel
theorem dX8_justBy_145 : decode cX8_justBy 145 = .ok (.iconst 1, 1) := by decide +kernel
theorem dX8_justBy_146 : decode cX8_justBy 146 = .ok (.goto 4, 3) := by decide +kernel
theorem dX8_justBy_149 : decode cX8_justBy 149 = .ok (.iconst 0, 1) := by decide +kernel
theorem dX8_justBy_150 : decode cX8_justBy 150 = .ok (.iadd, 1) := by decide +kernel
theorem dX8_justBy_151 : decode cX8_justBy 151 = .ok (.istore_n 2, 1) := by decide +kernel
theorem dX8_justBy_152 : decode cX8_justBy 152 = .ok (.iinc 3 1, 3) := by decide +kernel
theorem dX8_justBy_155 : decode cX8_justBy 155 = .ok (.goto (-44), 3) := by decide +kernel
theorem dX8_justBy_158 : decode cX8_justBy 158 = .ok (.iload_n 2, 1) := by decide +kernel
theorem dX8_justBy_159 : decode cX8_justBy 159 = .ok (.ireturn, 1) := by decide +kernel
set_option maxRecDepth 20000 in
theorem ggX8_layOrder_X8_justBy : GoodIn wsX8_layOrder wsX8_justBy := goodIn_r _ [9, 10, 2, 1, 11, 12, 13, 8, 14, 15, 16, 17, 18, 19, 20, 21, 22, 23, 24, 25, 26, 27, 28, 29, 30, 31, 32, 33, 34, 35, 36, 37, 38, 39, 40, 41, 49, 50, 51, 52, 53, 54, 55, 56, 57, 58, 59, 60, 61, 62, 63, 64, 65, 66, 67, 68, 69, 70] (by decide +kernel) (by decide +kernel)
set_option maxRecDepth 20000 in
theorem gX8_layOrder_X8_justBy : GoodIn wsX8_layOrder (wsV RX8 188 RX8 yX8_justBy wsX8_justBy) := goodIn_app (goodIn_of _ (by decide +kernel)) ggX8_layOrder_X8_justBy
set_option maxRecDepth 20000 in
theorem ggX8_layOrder_X8_bring : GoodIn wsX8_layOrder wsX8_bring := goodIn_r _ [17] (by decide +kernel) (by decide +kernel)
set_option maxRecDepth 20000 in
theorem gX8_layOrder_X8_bring : GoodIn wsX8_layOrder (va_wsS RX8 99 yX8_bring wsX8_bring) := goodIn_app (goodIn_of _ (by decide +kernel)) ggX8_layOrder_X8_bring
set_option maxRecDepth 20000 in
theorem ggX8_layOrder_X8_isNextOrder : GoodIn wsX8_layOrder wsX8_isNextOrder := goodIn_r _ [45, 1, 46, 47, 8, 48, 49, 50, 51, 52, 53, 54, 55, 56, 57, 58, 59, 60, 61, 62, 63, 64, 65, 66, 67, 68, 69, 70] (by decide +kernel) (by decide +kernel)
set_option maxRecDepth 20000 in
theorem gX8_layOrder_X8_isNextOrder : GoodIn wsX8_layOrder (wsV RX8 191 RX8 yX8_isNextOrder wsX8_isNextOrder) := goodIn_app (goodIn_of _ (by decide +kernel)) ggX8_layOrder_X8_isNextOrder
theorem dX8_layOrder_0 : decode cX8_layOrder 0 = .ok (.iconst 0, 1) := by decide +kernel
theorem dX8_layOrder_1 : decode cX8_layOrder 1 = .ok (.istore_n 2, 1) := by decide +kernel
theorem dX8_layOrder_2 : decode cX8_layOrder 2 = .ok (.iload_n 2, 1) := by decide +kernel
theorem dX8_layOrder_3 : decode cX8_layOrder 3 = .ok (.iload_n 1, 1) := by decide +kernel
theorem dX8_layOrder_4 : decode cX8_layOrder 4 = .ok (.if_icmp .ge 23, 3) := by decide +kernel
theorem dX8_layOrder_7 : decode cX8_layOrder 7 = .ok (.aload_n 0, 1) := by decide +kernel
theorem dX8_layOrder_8 : decode cX8_layOrder 8 = .ok (.getfield 45, 3) := by decide +kernel
theorem dX8_layOrder_11 : decode cX8_layOrder 11 = .ok (.iload_n 2, 1) := by decide +kernel
theorem dX8_layOrder_12 : decode cX8_layOrder 12 = .ok (.aload_n 0, 1) := by decide +kernel
theorem dX8_layOrder_13 : decode cX8_layOrder 13 = .ok (.getfield 23, 3) := by decide +kernel
theorem dX8_layOrder_16 : decode cX8_layOrder 16 = .ok (.iconst 0, 1) := by decide +kernel
theorem dX8_layOrder_17 : decode cX8_layOrder 17 = .ok (.iaload, 1) := by decide +kernel
theorem dX8_layOrder_18 : decode cX8_layOrder 18 = .ok (.iload_n 2, 1) := by decide +kernel
theorem dX8_layOrder_19 : decode cX8_layOrder 19 = .ok (.iadd, 1) := by decide +kernel
theorem dX8_layOrder_20 : decode cX8_layOrder 20 = .ok (.iastore, 1) := by decide +kernel
theorem dX8_layOrder_21 : decode cX8_layOrder 21 = .ok (.iinc 2 1, 3) := by decide +kernel
theorem dX8_layOrder_24 : decode cX8_layOrder 24 = .ok (.goto (-22), 3) := by decide +kernel
theorem dX8_layOrder_27 : decode cX8_layOrder 27 = .ok (.aload_n 0, 1) := by decide +kernel
theorem dX8_layOrder_28 : decode cX8_layOrder 28 = .ok (.iconst (-1), 1) := by decide +kernel
theorem dX8_layOrder_29 : decode cX8_layOrder 29 = .ok (.putfield 185, 3) := by decide +kernel
theorem dX8_layOrder_32 : decode cX8_layOrder 32 = .ok (.iconst 1, 1) := by decide +kernel
theorem dX8_layOrder_33 : decode cX8_layOrder 33 = .ok (.istore_n 2, 1) := by decide +kernel
theorem dX8_layOrder_34 : decode cX8_layOrder 34 = .ok (.iload_n 2, 1) := by decide +kernel
theorem dX8_layOrder_35 : decode cX8_layOrder 35 = .ok (.ifCond .eq 46, 3) := by decide +kernel
theorem dX8_layOrder_38 : decode cX8_layOrder 38 = .ok (.aload_n 0, 1) := by decide +kernel
theorem dX8_layOrder_39 : decode cX8_layOrder 39 = .ok (.iload_n 1, 1) := by decide +kernel
theorem dX8_layOrder_40 : decode cX8_layOrder 40 = .ok (.invokevirtual 188, 3) := by decide +kernel
theorem dX8_layOrder_43 : decode cX8_layOrder 43 = .ok (.istore_n 3, 1) := by decide +kernel
theorem dX8_layOrder_44 : decode cX8_layOrder 44 = .ok (.iload_n 3, 1) := by decide +kernel
theorem dX8_layOrder_45 : decode cX8_layOrder 45 = .ok (.aload_n 0, 1) := by decide +kernel
theorem dX8_layOrder_46 : decode cX8_layOrder 46 = .ok (.getfield 185, 3) := by decide +kernel
theorem dX8_layOrder_49 : decode cX8_layOrder 49 = .ok (.if_icmp .le 23, 3) := by decide +kernel
theorem dX8_layOrder_52 : decode cX8_layOrder 52 = .ok (.aload_n 0, 1) := by decide +kernel
theorem dX8_layOrder_53 : decode cX8_layOrder 53 = .ok (.iload_n 3, 1) := by decide +kernel
theorem dX8_layOrder_54 : decode cX8_layOrder 54 = .ok (.putfield 185, 3) := by decide +kernel
theorem dX8_layOrder_57 : decode cX8_layOrder 57 = .ok (.aload_n 0, 1) := by decide +kernel
theorem dX8_layOrder_58 : decode cX8_layOrder 58 = .ok (.getfield 45, 3) := by decide +kernel
theorem dX8_layOrder_61 : decode cX8_layOrder 61 = .ok (.iconst 0, 1) := by decide +kernel
theorem dX8_layOrder_62 : decode cX8_layOrder 62 = .ok (.aload_n 0, 1) := by decide +kernel
theorem dX8_layOrder_63 : decode cX8_layOrder 63 = .ok (.getfield 48, 3) := by decide +kernel
theorem dX8_layOrder_66 : decode cX8_layOrder 66 = .ok (.iconst 0, 1) := by decide +kernel
theorem dX8_layOrder_67 : decode cX8_layOrder 67 = .ok (.bipush 6, 2) := by decide +kernel
theorem dX8_layOrder_69 : decode cX8_layOrder 69 = .ok (.invokestatic 99, 3) := by decide +kernel
theorem dX8_layOrder_72 : decode cX8_layOrder 72 = .ok (.aload_n 0, 1) := by decide +kernel
theorem dX8_layOrder_73 : decode cX8_layOrder 73 = .ok (.iload_n 1, 1) := by decide +kernel
theorem dX8_layOrder_74 : decode cX8_layOrder 74 = .ok (.invokevirtual 191, 3) := by decide +kernel
theorem dX8_layOrder_77 : decode cX8_layOrder 77 = .ok (.istore_n 2, 1) := by decide +kernel
theorem dX8_layOrder_78 : decode cX8_layOrder 78 = .ok (.goto (-44), 3) := by decide +kernel
theorem dX8_layOrder_81 : decode cX8_layOrder 81 = .ok (.return_, 1) := by decide +kernel
set_option maxRecDepth 20000 in
theorem ggX8_order_X8_in : GoodIn wsX8_order wsX8_in := goodIn_r _ [6] (by decide +kernel) (by decide +kernel)
set_option maxRecDepth 20000 in
theorem gX8_order_X8_in : GoodIn wsX8_order (va_wsS RX8 60 yX8_in wsX8_in) := goodIn_app (goodIn_of _ (by decide +kernel)) ggX8_order_X8_in
set_option maxRecDepth 20000 in
theorem ggX8_order_X8_isThere : GoodIn wsX8_order wsX8_isThere := goodIn_r _ [10, 11, 64, 65, 66, 67, 68, 69, 70, 71, 72, 73, 74, 75, 76, 77, 78, 79, 80, 81, 82, 83, 84, 85] (by decide +kernel) (by decide +kernel)
set_option maxRecDepth 20000 in
theorem gX8_order_X8_isThere : GoodIn wsX8_order (wsV RX8 154 RX8 yX8_isThere wsX8_isThere) := goodIn_app (goodIn_of _ (by decide +kernel)) ggX8_order_X8_isThere
set_option maxRecDepth 20000 in
theorem ggX8_order_X8_casesLeft : GoodIn wsX8_order wsX8_casesLeft := goodIn_r _ [15, 11, 64, 65, 66, 67, 68, 69, 70, 71, 72, 73, 74, 75, 76, 77, 78, 79, 80, 81, 82, 83, 84, 85] (by decide +kernel) (by decide +kernel)
set_option maxRecDepth 20000 in
theorem gX8_order_X8_casesLeft : GoodIn wsX8_order (wsV RX8 137 RX8 yX8_casesLeft wsX8_casesLeft) := goodIn_app (goodIn_of _ (by decide +kernel)) ggX8_order_X8_casesLeft
set_option maxRecDepth 20000 in
theorem ggX8_order_X8_layOrder : GoodIn wsX8_order wsX8_layOrder := goodIn_r _ [19, 20, 11, 1, 2, 21, 22, 23, 5, 24, 25, 26, 27, 28, 29, 30, 31, 32, 33, 34, 35, 36, 37, 38, 39, 40, 41, 42, 43, 44, 45, 46, 47, 48, 49, 50, 51, 52, 53, 54, 55, 56, 57, 58, 59, 60, 61, 62, 63, 64, 65, 66, 67, 68, 69, 70, 71, 72, 73, 74, 75, 76, 77, 78, 79, 80, 81, 82, 83, 84, 85] (by decide +kernel) (by decide +kernel)
set_option maxRecDepth 20000 in
theorem gX8_order_X8_layOrder : GoodIn wsX8_order (wsV RX8 194 RX8 yX8_layOrder wsX8_layOrder) := goodIn_app (goodIn_of _ (by decide +kernel)) ggX8_order_X8_layOrder
theorem dX8_order_0 : decode cX8_order 0 = .ok (.iload_n 1, 1) := by decide +kernel
theorem dX8_order_1 : decode cX8_order 1 = .ok (.iconst 0, 1) := by decide +kernel
theorem dX8_order_2 : decode cX8_order 2 = .ok (.bipush 6, 2) := by decide +kernel
theorem dX8_order_4 : decode cX8_order 4 = .ok (.invokestatic 60, 3) := by decide +kernel
theorem dX8_order_7 : decode cX8_order 7 = .ok (.ifCond .eq 8, 3) := by decide +kernel
theorem dX8_order_10 : decode cX8_order 10 = .ok (.iload_n 2, 1) := by decide +kernel
theorem dX8_order_11 : decode cX8_order 11 = .ok (.iconst (-1), 1) := by decide +kernel
theorem dX8_order_12 : decode cX8_order 12 = .ok (.if_icmp .ge 5, 3) := by decide +kernel
theorem dX8_order_15 : decode cX8_order 15 = .ok (.iconst (-1), 1) := by decide +kernel
theorem dX8_order_16 : decode cX8_order 16 = .ok (.ireturn, 1) := by decide +kernel
theorem dX8_order_17 : decode cX8_order 17 = .ok (.aload_n 0, 1) := by decide +kernel
theorem dX8_order_18 : decode cX8_order 18 = .ok (.invokevirtual 154, 3) := by decide +kernel
theorem dX8_order_21 : decode cX8_order 21 = .ok (.ifCond .ne 6, 3) := by decide +kernel
theorem dX8_order_24 : decode cX8_order 24 = .ok (.bipush (-2), 2) := by decide +kernel
theorem dX8_order_26 : decode cX8_order 26 = .ok (.ireturn, 1) := by decide +kernel
theorem dX8_order_27 : decode cX8_order 27 = .ok (.iload_n 1, 1) := by decide +kernel
theorem dX8_order_28 : decode cX8_order 28 = .ok (.aload_n 0, 1) := by decide +kernel
theorem dX8_order_29 : decode cX8_order 29 = .ok (.invokevirtual 137, 3) := by decide +kernel
theorem dX8_order_32 : decode cX8_order 32 = .ok (.if_icmp .le 6, 3) := by decide +kernel
theorem dX8_order_35 : decode cX8_order 35 = .ok (.bipush (-4), 2) := by decide +kernel
theorem dX8_order_37 : decode cX8_order 37 = .ok (.ireturn, 1) := by decide +kernel
theorem dX8_order_38 : decode cX8_order 38 = .ok (.aload_n 0, 1) := by decide +kernel
theorem dX8_order_39 : decode cX8_order 39 = .ok (.iload_n 1, 1) := by decide +kernel
theorem dX8_order_40 : decode cX8_order 40 = .ok (.invokevirtual 194, 3) := by decide +kernel
theorem dX8_order_43 : decode cX8_order 43 = .ok (.iload_n 2, 1) := by decide +kernel
theorem dX8_order_44 : decode cX8_order 44 = .ok (.iconst (-1), 1) := by decide +kernel
theorem dX8_order_45 : decode cX8_order 45 = .ok (.if_icmp .ne 10, 3) := by decide +kernel
theorem dX8_order_48 : decode cX8_order 48 = .ok (.aload_n 0, 1) := by decide +kernel
theorem dX8_order_49 : decode cX8_order 49 = .ok (.getfield 185, 3) := by decide +kernel
theorem dX8_order_52 : decode cX8_order 52 = .ok (.goto 19, 3) := by decide +kernel
theorem dX8_order_55 : decode cX8_order 55 = .ok (.iload_n 2, 1) := by decide +kernel
theorem dX8_order_56 : decode cX8_order 56 = .ok (.iload_n 1, 1) := by decide +kernel
theorem dX8_order_57 : decode cX8_order 57 = .ok (.if_icmp .ge 12, 3) := by decide +kernel
theorem dX8_order_60 : decode cX8_order 60 = .ok (.aload_n 0, 1) := by decide +kernel
theorem dX8_order_61 : decode cX8_order 61 = .ok (.getfield 48, 3) := by decide +kernel
theorem dX8_order_64 : decode cX8_order 64 = .ok (.iload_n 2, 1) := by decide +kernel
theorem dX8_order_65 : decode cX8_order 65 = .ok (.iaload, 1) := by decide +kernel
theorem dX8_order_66 : decode cX8_order 66 = .ok (.goto 5, 3) := by decide +kernel
theorem dX8_order_69 : decode cX8_order 69 = .ok (.bipush (-4), 2) := by decide +kernel
theorem dX8_order_71 : decode cX8_order 71 = .ok (.ireturn, 1) := by decide +kernel
theorem dX8_stateOf_0 : decode cX8_stateOf 0 = .ok (.aload_n 0, 1) := by decide +kernel
theorem dX8_stateOf_1 : decode cX8_stateOf 1 = .ok (.getfield 29, 3) := by decide +kernel
theorem dX8_stateOf_4 : decode cX8_stateOf 4 = .ok (.iconst 1, 1) := by decide +kernel
theorem dX8_stateOf_5 : decode cX8_stateOf 5 = .ok (.iaload, 1) := by decide +kernel
theorem dX8_stateOf_6 : decode cX8_stateOf 6 = .ok (.bipush 21, 2) := by decide +kernel
theorem dX8_stateOf_8 : decode cX8_stateOf 8 = .ok (.imul, 1) := by decide +kernel
theorem dX8_stateOf_9 : decode cX8_stateOf 9 = .ok (.aload_n 0, 1) := by decide +kernel
theorem dX8_stateOf_10 : decode cX8_stateOf 10 = .ok (.getfield 29, 3) := by decide +kernel
theorem dX8_stateOf_13 : decode cX8_stateOf 13 = .ok (.bipush 11, 2) := by decide +kernel
theorem dX8_stateOf_15 : decode cX8_stateOf 15 = .ok (.aload_n 0, 1) := by decide +kernel
theorem dX8_stateOf_16 : decode cX8_stateOf 16 = .ok (.getfield 23, 3) := by decide +kernel
theorem dX8_stateOf_19 : decode cX8_stateOf 19 = .ok (.bipush 35, 2) := by decide +kernel
theorem dX8_stateOf_21 : decode cX8_stateOf 21 = .ok (.iload_n 1, 1) := by decide +kernel
theorem dX8_stateOf_22 : decode cX8_stateOf 22 = .ok (.iadd, 1) := by decide +kernel
theorem dX8_stateOf_23 : decode cX8_stateOf 23 = .ok (.iaload, 1) := by decide +kernel
theorem dX8_stateOf_24 : decode cX8_stateOf 24 = .ok (.iadd, 1) := by decide +kernel
theorem dX8_stateOf_25 : decode cX8_stateOf 25 = .ok (.iaload, 1) := by decide +kernel
theorem dX8_stateOf_26 : decode cX8_stateOf 26 = .ok (.iadd, 1) := by decide +kernel
theorem dX8_stateOf_27 : decode cX8_stateOf 27 = .ok (.bipush 21, 2) := by decide +kernel
theorem dX8_stateOf_29 : decode cX8_stateOf 29 = .ok (.imul, 1) := by decide +kernel
theorem dX8_stateOf_30 : decode cX8_stateOf 30 = .ok (.aload_n 0, 1) := by decide +kernel
theorem dX8_stateOf_31 : decode cX8_stateOf 31 = .ok (.getfield 29, 3) := by decide +kernel
theorem dX8_stateOf_34 : decode cX8_stateOf 34 = .ok (.bipush 11, 2) := by decide +kernel
theorem dX8_stateOf_36 : decode cX8_stateOf 36 = .ok (.aload_n 0, 1) := by decide +kernel
theorem dX8_stateOf_37 : decode cX8_stateOf 37 = .ok (.getfield 23, 3) := by decide +kernel
theorem dX8_stateOf_40 : decode cX8_stateOf 40 = .ok (.bipush 47, 2) := by decide +kernel
theorem dX8_stateOf_42 : decode cX8_stateOf 42 = .ok (.iload_n 1, 1) := by decide +kernel
theorem dX8_stateOf_43 : decode cX8_stateOf 43 = .ok (.iadd, 1) := by decide +kernel
theorem dX8_stateOf_44 : decode cX8_stateOf 44 = .ok (.iaload, 1) := by decide +kernel
theorem dX8_stateOf_45 : decode cX8_stateOf 45 = .ok (.iadd, 1) := by decide +kernel
theorem dX8_stateOf_46 : decode cX8_stateOf 46 = .ok (.iaload, 1) := by decide +kernel
theorem dX8_stateOf_47 : decode cX8_stateOf 47 = .ok (.iadd, 1) := by decide +kernel
theorem dX8_stateOf_48 : decode cX8_stateOf 48 = .ok (.ireturn, 1) := by decide +kernel
set_option maxRecDepth 20000 in
theorem ggX8_layRound_X8_begin : GoodIn wsX8_layRound wsX8_begin := goodIn_r _ [9, 10, 2, 11, 12, 8, 13, 33, 34, 35, 36, 37, 38, 39, 40, 41, 42, 43, 44, 45, 46, 47, 48, 49, 50, 51, 52, 53, 54] (by decide +kernel) (by decide +kernel)
set_option maxRecDepth 20000 in
theorem gX8_layRound_X8_begin : GoodIn wsX8_layRound (wsV RX8 157 RX8 yX8_begin wsX8_begin) := goodIn_app (goodIn_of _ (by decide +kernel)) ggX8_layRound_X8_begin
set_option maxRecDepth 20000 in
theorem ggX8_layRound_X8_stateOf : GoodIn wsX8_layRound wsX8_stateOf := goodIn_r _ [17, 2, 10, 33, 34, 35, 36, 37, 38, 39, 40, 41, 42, 43, 44, 45, 46, 47, 48, 49, 50, 51, 52, 53, 54] (by decide +kernel) (by decide +kernel)
set_option maxRecDepth 20000 in
theorem gX8_layRound_X8_stateOf : GoodIn wsX8_layRound (wsV RX8 198 RX8 yX8_stateOf wsX8_stateOf) := goodIn_app (goodIn_of _ (by decide +kernel)) ggX8_layRound_X8_stateOf
set_option maxRecDepth 20000 in
theorem ggX8_layRound_X8_foundBy : GoodIn wsX8_layRound wsX8_foundBy := goodIn_r _ [20] (by decide +kernel) (by decide +kernel)
set_option maxRecDepth 20000 in
theorem gX8_layRound_X8_foundBy : GoodIn wsX8_layRound (va_wsS RX8 122 yX8_foundBy wsX8_foundBy) := goodIn_app (goodIn_of _ (by decide +kernel)) ggX8_layRound_X8_foundBy
set_option maxRecDepth 20000 in
theorem ggX8_layRound_X8_ends : GoodIn wsX8_layRound wsX8_ends := goodIn_r _ [23, 24, 25, 8, 26, 27, 28, 29, 30, 31, 32] (by decide +kernel) (by decide +kernel)
set_option maxRecDepth 20000 in
theorem gX8_layRound_X8_ends : GoodIn wsX8_layRound (va_wsS RX8 133 yX8_ends wsX8_ends) := goodIn_app (goodIn_of _ (by decide +kernel)) ggX8_layRound_X8_ends
theorem dX8_layRound_0 : decode cX8_layRound 0 = .ok (.iconst 0, 1) := by decide +kernel
theorem dX8_layRound_1 : decode cX8_layRound 1 = .ok (.istore_n 2, 1) := by decide +kernel
theorem dX8_layRound_2 : decode cX8_layRound 2 = .ok (.iload_n 2, 1) := by decide +kernel
theorem dX8_layRound_3 : decode cX8_layRound 3 = .ok (.sipush 2646, 3) := by decide +kernel
theorem dX8_layRound_6 : decode cX8_layRound 6 = .ok (.if_icmp .ge 16, 3) := by decide +kernel
theorem dX8_layRound_9 : decode cX8_layRound 9 = .ok (.aload_n 0, 1) := by decide +kernel
theorem dX8_layRound_10 : decode cX8_layRound 10 = .ok (.getfield 51, 3) := by decide +kernel
theorem dX8_layRound_13 : decode cX8_layRound 13 = .ok (.iload_n 2, 1) := by decide +kernel
theorem dX8_layRound_14 : decode cX8_layRound 14 = .ok (.iconst (-1), 1) := by decide +kernel
theorem dX8_layRound_15 : decode cX8_layRound 15 = .ok (.iastore, 1) := by decide +kernel
theorem dX8_layRound_16 : decode cX8_layRound 16 = .ok (.iinc 2 1, 3) := by decide +kernel
theorem dX8_layRound_19 : decode cX8_layRound 19 = .ok (.goto (-17), 3) := by decide +kernel
theorem dX8_layRound_22 : decode cX8_layRound 22 = .ok (.aload_n 0, 1) := by decide +kernel
theorem dX8_layRound_23 : decode cX8_layRound 23 = .ok (.invokevirtual 157, 3) := by decide +kernel
theorem dX8_layRound_26 : decode cX8_layRound 26 = .ok (.iconst 0, 1) := by decide +kernel
theorem dX8_layRound_27 : decode cX8_layRound 27 = .ok (.istore_n 2, 1) := by decide +kernel
theorem dX8_layRound_28 : decode cX8_layRound 28 = .ok (.aload_n 0, 1) := by decide +kernel
theorem dX8_layRound_29 : decode cX8_layRound 29 = .ok (.getfield 51, 3) := by decide +kernel
theorem dX8_layRound_32 : decode cX8_layRound 32 = .ok (.aload_n 0, 1) := by decide +kernel
theorem dX8_layRound_33 : decode cX8_layRound 33 = .ok (.iload_n 1, 1) := by decide +kernel
theorem dX8_layRound_34 : decode cX8_layRound 34 = .ok (.invokevirtual 198, 3) := by decide +kernel
theorem dX8_layRound_37 : decode cX8_layRound 37 = .ok (.iaload, 1) := by decide +kernel
theorem dX8_layRound_38 : decode cX8_layRound 38 = .ok (.ifCond .ge 56, 3) := by decide +kernel
theorem dX8_layRound_41 : decode cX8_layRound 41 = .ok (.aload_n 0, 1) := by decide +kernel
theorem dX8_layRound_42 : decode cX8_layRound 42 = .ok (.getfield 51, 3) := by decide +kernel
theorem dX8_layRound_45 : decode cX8_layRound 45 = .ok (.aload_n 0, 1) := by decide +kernel
theorem dX8_layRound_46 : decode cX8_layRound 46 = .ok (.iload_n 1, 1) := by decide +kernel
theorem dX8_layRound_47 : decode cX8_layRound 47 = .ok (.invokevirtual 198, 3) := by decide +kernel
theorem dX8_layRound_50 : decode cX8_layRound 50 = .ok (.iload_n 2, 1) := by decide +kernel
theorem dX8_layRound_51 : decode cX8_layRound 51 = .ok (.iastore, 1) := by decide +kernel
theorem dX8_layRound_52 : decode cX8_layRound 52 = .ok (.aload_n 0, 1) := by decide +kernel
theorem dX8_layRound_53 : decode cX8_layRound 53 = .ok (.getfield 29, 3) := by decide +kernel
theorem dX8_layRound_56 : decode cX8_layRound 56 = .ok (.iload_n 1, 1) := by decide +kernel
theorem dX8_layRound_57 : decode cX8_layRound 57 = .ok (.aload_n 0, 1) := by decide +kernel
theorem dX8_layRound_58 : decode cX8_layRound 58 = .ok (.getfield 29, 3) := by decide +kernel
theorem dX8_layRound_61 : decode cX8_layRound 61 = .ok (.aload_n 0, 1) := by decide +kernel
theorem dX8_layRound_62 : decode cX8_layRound 62 = .ok (.getfield 29, 3) := by decide +kernel
theorem dX8_layRound_65 : decode cX8_layRound 65 = .ok (.iconst 1, 1) := by decide +kernel
theorem dX8_layRound_66 : decode cX8_layRound 66 = .ok (.iaload, 1) := by decide +kernel
theorem dX8_layRound_67 : decode cX8_layRound 67 = .ok (.aload_n 0, 1) := by decide +kernel
theorem dX8_layRound_68 : decode cX8_layRound 68 = .ok (.getfield 29, 3) := by decide +kernel
theorem dX8_layRound_71 : decode cX8_layRound 71 = .ok (.bipush 23, 2) := by decide +kernel
theorem dX8_layRound_73 : decode cX8_layRound 73 = .ok (.aload_n 0, 1) := by decide +kernel
theorem dX8_layRound_74 : decode cX8_layRound 74 = .ok (.getfield 29, 3) := by decide +kernel
theorem dX8_layRound_77 : decode cX8_layRound 77 = .ok (.iconst 1, 1) := by decide +kernel
theorem dX8_layRound_78 : decode cX8_layRound 78 = .ok (.iaload, 1) := by decide +kernel
theorem dX8_layRound_79 : decode cX8_layRound 79 = .ok (.iadd, 1) := by decide +kernel
theorem dX8_layRound_80 : decode cX8_layRound 80 = .ok (.iaload, 1) := by decide +kernel
theorem dX8_layRound_81 : decode cX8_layRound 81 = .ok (.iload_n 1, 1) := by decide +kernel
theorem dX8_layRound_82 : decode cX8_layRound 82 = .ok (.invokestatic 122, 3) := by decide +kernel
theorem dX8_layRound_85 : decode cX8_layRound 85 = .ok (.invokestatic 133, 3) := by decide +kernel
theorem dX8_layRound_88 : decode cX8_layRound 88 = .ok (.iinc 2 1, 3) := by decide +kernel
theorem dX8_layRound_91 : decode cX8_layRound 91 = .ok (.goto (-63), 3) := by decide +kernel
theorem dX8_layRound_94 : decode cX8_layRound 94 = .ok (.aload_n 0, 1) := by decide +kernel
theorem dX8_layRound_95 : decode cX8_layRound 95 = .ok (.aload_n 0, 1) := by decide +kernel
theorem dX8_layRound_96 : decode cX8_layRound 96 = .ok (.getfield 51, 3) := by decide +kernel
theorem dX8_layRound_99 : decode cX8_layRound 99 = .ok (.aload_n 0, 1) := by decide +kernel
theorem dX8_layRound_100 : decode cX8_layRound 100 = .ok (.iload_n 1, 1) := by decide +kernel
theorem dX8_layRound_101 : decode cX8_layRound 101 = .ok (.invokevirtual 198, 3) := by decide +kernel
theorem dX8_layRound_104 : decode cX8_layRound 104 = .ok (.iaload, 1) := by decide +kernel
theorem dX8_layRound_105 : decode cX8_layRound 105 = .ok (.putfield 201, 3) := by decide +kernel
theorem dX8_layRound_108 : decode cX8_layRound 108 = .ok (.aload_n 0, 1) := by decide +kernel
theorem dX8_layRound_109 : decode cX8_layRound 109 = .ok (.iload_n 2, 1) := by decide +kernel
theorem dX8_layRound_110 : decode cX8_layRound 110 = .ok (.aload_n 0, 1) := by decide +kernel
theorem dX8_layRound_111 : decode cX8_layRound 111 = .ok (.getfield 201, 3) := by decide +kernel
theorem dX8_layRound_114 : decode cX8_layRound 114 = .ok (.isub, 1) := by decide +kernel
theorem dX8_layRound_115 : decode cX8_layRound 115 = .ok (.putfield 204, 3) := by decide +kernel
theorem dX8_layRound_118 : decode cX8_layRound 118 = .ok (.return_, 1) := by decide +kernel
set_option maxRecDepth 20000 in
theorem ggX8_round_X8_isCase : GoodIn wsX8_round wsX8_isCase := goodIn_r _ [7, 8, 9, 10, 6, 11, 44, 45, 46, 47, 48, 49, 50, 51, 52, 53, 54, 55, 56, 57, 58, 59, 60, 61, 62, 63, 64, 65] (by decide +kernel) (by decide +kernel)
set_option maxRecDepth 20000 in
theorem gX8_round_X8_isCase : GoodIn wsX8_round (wsV RX8 119 RX8 yX8_isCase wsX8_isCase) := goodIn_app (goodIn_of _ (by decide +kernel)) ggX8_round_X8_isCase
set_option maxRecDepth 20000 in
theorem ggX8_round_X8_in : GoodIn wsX8_round wsX8_in := goodIn_r _ [11] (by decide +kernel) (by decide +kernel)
set_option maxRecDepth 20000 in
theorem gX8_round_X8_in : GoodIn wsX8_round (va_wsS RX8 60 yX8_in wsX8_in) := goodIn_app (goodIn_of _ (by decide +kernel)) ggX8_round_X8_in
set_option maxRecDepth 20000 in
theorem ggX8_round_X8_layRound : GoodIn wsX8_round wsX8_layRound := goodIn_r _ [15, 16, 17, 1, 2, 18, 19, 20, 6, 21, 8, 22, 23, 24, 25, 26, 27, 28, 29, 30, 31, 32, 33, 34, 35, 36, 37, 38, 39, 40, 41, 42, 43, 44, 45, 46, 47, 48, 49, 50, 51, 52, 53, 54, 55, 56, 57, 58, 59, 60, 61, 62, 63, 64, 65] (by decide +kernel) (by decide +kernel)
set_option maxRecDepth 20000 in
theorem gX8_round_X8_layRound : GoodIn wsX8_round (wsV RX8 207 RX8 yX8_layRound wsX8_layRound) := goodIn_app (goodIn_of _ (by decide +kernel)) ggX8_round_X8_layRound
theorem dX8_round_0 : decode cX8_round 0 = .ok (.aload_n 0, 1) := by decide +kernel
theorem dX8_round_1 : decode cX8_round 1 = .ok (.iload_n 1, 1) := by decide +kernel
theorem dX8_round_2 : decode cX8_round 2 = .ok (.invokevirtual 119, 3) := by decide +kernel
theorem dX8_round_5 : decode cX8_round 5 = .ok (.ifCond .eq 12, 3) := by decide +kernel
theorem dX8_round_8 : decode cX8_round 8 = .ok (.iload_n 2, 1) := by decide +kernel
theorem dX8_round_9 : decode cX8_round 9 = .ok (.iconst 0, 1) := by decide +kernel
theorem dX8_round_10 : decode cX8_round 10 = .ok (.iconst 1, 1) := by decide +kernel
theorem dX8_round_11 : decode cX8_round 11 = .ok (.invokestatic 60, 3) := by decide +kernel
theorem dX8_round_14 : decode cX8_round 14 = .ok (.ifCond .ne 5, 3) := by decide +kernel
theorem dX8_round_17 : decode cX8_round 17 = .ok (.iconst (-1), 1) := by decide +kernel
theorem dX8_round_18 : decode cX8_round 18 = .ok (.ireturn, 1) := by decide +kernel
theorem dX8_round_19 : decode cX8_round 19 = .ok (.aload_n 0, 1) := by decide +kernel
theorem dX8_round_20 : decode cX8_round 20 = .ok (.iload_n 1, 1) := by decide +kernel
theorem dX8_round_21 : decode cX8_round 21 = .ok (.invokevirtual 207, 3) := by decide +kernel
theorem dX8_round_24 : decode cX8_round 24 = .ok (.iload_n 2, 1) := by decide +kernel
theorem dX8_round_25 : decode cX8_round 25 = .ok (.ifCond .ne 10, 3) := by decide +kernel
theorem dX8_round_28 : decode cX8_round 28 = .ok (.aload_n 0, 1) := by decide +kernel
theorem dX8_round_29 : decode cX8_round 29 = .ok (.getfield 201, 3) := by decide +kernel
theorem dX8_round_32 : decode cX8_round 32 = .ok (.goto 7, 3) := by decide +kernel
theorem dX8_round_35 : decode cX8_round 35 = .ok (.aload_n 0, 1) := by decide +kernel
theorem dX8_round_36 : decode cX8_round 36 = .ok (.getfield 204, 3) := by decide +kernel
theorem dX8_round_39 : decode cX8_round 39 = .ok (.ireturn, 1) := by decide +kernel
set_option maxRecDepth 20000 in
theorem ggX8_favourite_X8_liking : GoodIn wsX8_favourite wsX8_liking := goodIn_r _ [6] (by decide +kernel) (by decide +kernel)
set_option maxRecDepth 20000 in
theorem gX8_favourite_X8_liking : GoodIn wsX8_favourite (va_wsS RX8 106 yX8_liking wsX8_liking) := goodIn_app (goodIn_of _ (by decide +kernel)) ggX8_favourite_X8_liking
set_option maxRecDepth 20000 in
theorem ggX8_favourite_X8_has : GoodIn wsX8_favourite wsX8_has := goodIn_r _ [9] (by decide +kernel) (by decide +kernel)
set_option maxRecDepth 20000 in
theorem gX8_favourite_X8_has : GoodIn wsX8_favourite (va_wsS RX8 164 yX8_has wsX8_has) := goodIn_app (goodIn_of _ (by decide +kernel)) ggX8_favourite_X8_has
theorem dX8_favourite_0 : decode cX8_favourite 0 = .ok (.bipush (-4), 2) := by decide +kernel
theorem dX8_favourite_2 : decode cX8_favourite 2 = .ok (.istore_n 2, 1) := by decide +kernel
theorem dX8_favourite_3 : decode cX8_favourite 3 = .ok (.aload_n 0, 1) := by decide +kernel
theorem dX8_favourite_4 : decode cX8_favourite 4 = .ok (.getfield 23, 3) := by decide +kernel
theorem dX8_favourite_7 : decode cX8_favourite 7 = .ok (.iconst 5, 1) := by decide +kernel
theorem dX8_favourite_8 : decode cX8_favourite 8 = .ok (.iload_n 1, 1) := by decide +kernel
theorem dX8_favourite_9 : decode cX8_favourite 9 = .ok (.iadd, 1) := by decide +kernel
theorem dX8_favourite_10 : decode cX8_favourite 10 = .ok (.iaload, 1) := by decide +kernel
theorem dX8_favourite_11 : decode cX8_favourite 11 = .ok (.istore_n 3, 1) := by decide +kernel
theorem dX8_favourite_12 : decode cX8_favourite 12 = .ok (.iconst 0, 1) := by decide +kernel
theorem dX8_favourite_13 : decode cX8_favourite 13 = .ok (.istore 4, 2) := by decide +kernel
theorem dX8_favourite_15 : decode cX8_favourite 15 = .ok (.iload 4, 2) := by decide +kernel
theorem dX8_favourite_17 : decode cX8_favourite 17 = .ok (.aload_n 0, 1) := by decide +kernel
theorem dX8_favourite_18 : decode cX8_favourite 18 = .ok (.getfield 23, 3) := by decide +kernel
theorem dX8_favourite_21 : decode cX8_favourite 21 = .ok (.iconst 3, 1) := by decide +kernel
theorem dX8_favourite_22 : decode cX8_favourite 22 = .ok (.iaload, 1) := by decide +kernel
theorem dX8_favourite_23 : decode cX8_favourite 23 = .ok (.if_icmp .ge 72, 3) := by decide +kernel
theorem dX8_favourite_26 : decode cX8_favourite 26 = .ok (.iload_n 2, 1) := by decide +kernel
theorem dX8_favourite_27 : decode cX8_favourite 27 = .ok (.bipush (-4), 2) := by decide +kernel
theorem dX8_favourite_29 : decode cX8_favourite 29 = .ok (.if_icmp .eq 27, 3) := by decide +kernel
theorem dX8_favourite_32 : decode cX8_favourite 32 = .ok (.aload_n 0, 1) := by decide +kernel
theorem dX8_favourite_33 : decode cX8_favourite 33 = .ok (.getfield 23, 3) := by decide +kernel
theorem dX8_favourite_36 : decode cX8_favourite 36 = .ok (.iload_n 1, 1) := by decide +kernel
theorem dX8_favourite_37 : decode cX8_favourite 37 = .ok (.iload 4, 2) := by decide +kernel
theorem dX8_favourite_39 : decode cX8_favourite 39 = .ok (.iload_n 3, 1) := by decide +kernel
theorem dX8_favourite_40 : decode cX8_favourite 40 = .ok (.invokestatic 106, 3) := by decide +kernel
theorem dX8_favourite_43 : decode cX8_favourite 43 = .ok (.aload_n 0, 1) := by decide +kernel
theorem dX8_favourite_44 : decode cX8_favourite 44 = .ok (.getfield 23, 3) := by decide +kernel
theorem dX8_favourite_47 : decode cX8_favourite 47 = .ok (.iload_n 1, 1) := by decide +kernel
theorem dX8_favourite_48 : decode cX8_favourite 48 = .ok (.iload_n 2, 1) := by decide +kernel
theorem dX8_favourite_49 : decode cX8_favourite 49 = .ok (.iload_n 3, 1) := by decide +kernel
theorem dX8_favourite_50 : decode cX8_favourite 50 = .ok (.invokestatic 106, 3) := by decide +kernel
theorem dX8_favourite_53 : decode cX8_favourite 53 = .ok (.if_icmp .le 7, 3) := by decide +kernel
theorem dX8_favourite_56 : decode cX8_favourite 56 = .ok (.iconst 1, 1) := by decide +kernel
theorem dX8_favourite_57 : decode cX8_favourite 57 = .ok (.goto 4, 3) := by decide +kernel
theorem dX8_favourite_60 : decode cX8_favourite 60 = .ok (.iconst 0, 1) := by decide +kernel
theorem dX8_favourite_61 : decode cX8_favourite 61 = .ok (.istore 5, 2) := by decide +kernel
theorem dX8_favourite_63 : decode cX8_favourite 63 = .ok (.aload_n 0, 1) := by decide +kernel
theorem dX8_favourite_64 : decode cX8_favourite 64 = .ok (.getfield 57, 3) := by decide +kernel
theorem dX8_favourite_67 : decode cX8_favourite 67 = .ok (.iload_n 1, 1) := by decide +kernel
theorem dX8_favourite_68 : decode cX8_favourite 68 = .ok (.iaload, 1) := by decide +kernel
theorem dX8_favourite_69 : decode cX8_favourite 69 = .ok (.iload 4, 2) := by decide +kernel
theorem dX8_favourite_71 : decode cX8_favourite 71 = .ok (.invokestatic 164, 3) := by decide +kernel
theorem dX8_favourite_74 : decode cX8_favourite 74 = .ok (.ifCond .ne 13, 3) := by decide +kernel
theorem dX8_favourite_77 : decode cX8_favourite 77 = .ok (.iload 5, 2) := by decide +kernel
theorem dX8_favourite_79 : decode cX8_favourite 79 = .ok (.ifCond .eq 8, 3) := by decide +kernel
theorem dX8_favourite_82 : decode cX8_favourite 82 = .ok (.iload 4, 2) := by decide +kernel
theorem dX8_favourite_84 : decode cX8_favourite 84 = .ok (.goto 4, 3) := by decide +kernel
theorem dX8_favourite_87 : decode cX8_favourite 87 = .ok (.iload_n 2, 1) := by decide +kernel
theorem dX8_favourite_88 : decode cX8_favourite 88 = .ok (.istore_n 2, 1) := by decide +kernel
theorem dX8_favourite_89 : decode cX8_favourite 89 = .ok (.iinc 4 1, 3) := by decide +kernel
theorem dX8_favourite_92 : decode cX8_favourite 92 = .ok (.goto (-77), 3) := by decide +kernel
theorem dX8_favourite_95 : decode cX8_favourite 95 = .ok (.iload_n 2, 1) := by decide +kernel
theorem dX8_favourite_96 : decode cX8_favourite 96 = .ok (.ireturn, 1) := by decide +kernel
theorem dX8_isBefore_0 : decode cX8_isBefore 0 = .ok (.aload_n 0, 1) := by decide +kernel
theorem dX8_isBefore_1 : decode cX8_isBefore 1 = .ok (.getfield 23, 3) := by decide +kernel
theorem dX8_isBefore_4 : decode cX8_isBefore 4 = .ok (.bipush 11, 2) := by decide +kernel
theorem dX8_isBefore_6 : decode cX8_isBefore 6 = .ok (.iload_n 1, 1) := by decide +kernel
theorem dX8_isBefore_7 : decode cX8_isBefore 7 = .ok (.iadd, 1) := by decide +kernel
theorem dX8_isBefore_8 : decode cX8_isBefore 8 = .ok (.iaload, 1) := by decide +kernel
theorem dX8_isBefore_9 : decode cX8_isBefore 9 = .ok (.aload_n 0, 1) := by decide +kernel
theorem dX8_isBefore_10 : decode cX8_isBefore 10 = .ok (.getfield 23, 3) := by decide +kernel
theorem dX8_isBefore_13 : decode cX8_isBefore 13 = .ok (.bipush 11, 2) := by decide +kernel
theorem dX8_isBefore_15 : decode cX8_isBefore 15 = .ok (.iload_n 2, 1) := by decide +kernel
theorem dX8_isBefore_16 : decode cX8_isBefore 16 = .ok (.iadd, 1) := by decide +kernel
theorem dX8_isBefore_17 : decode cX8_isBefore 17 = .ok (.iaload, 1) := by decide +kernel
theorem dX8_isBefore_18 : decode cX8_isBefore 18 = .ok (.if_icmp .lt 29, 3) := by decide +kernel
theorem dX8_isBefore_21 : decode cX8_isBefore 21 = .ok (.aload_n 0, 1) := by decide +kernel
theorem dX8_isBefore_22 : decode cX8_isBefore 22 = .ok (.getfield 23, 3) := by decide +kernel
theorem dX8_isBefore_25 : decode cX8_isBefore 25 = .ok (.bipush 11, 2) := by decide +kernel
theorem dX8_isBefore_27 : decode cX8_isBefore 27 = .ok (.iload_n 1, 1) := by decide +kernel
theorem dX8_isBefore_28 : decode cX8_isBefore 28 = .ok (.iadd, 1) := by decide +kernel
theorem dX8_isBefore_29 : decode cX8_isBefore 29 = .ok (.iaload, 1) := by decide +kernel
theorem dX8_isBefore_30 : decode cX8_isBefore 30 = .ok (.aload_n 0, 1) := by decide +kernel
theorem dX8_isBefore_31 : decode cX8_isBefore 31 = .ok (.getfield 23, 3) := by decide +kernel
theorem dX8_isBefore_34 : decode cX8_isBefore 34 = .ok (.bipush 11, 2) := by decide +kernel
theorem dX8_isBefore_36 : decode cX8_isBefore 36 = .ok (.iload_n 2, 1) := by decide +kernel
theorem dX8_isBefore_37 : decode cX8_isBefore 37 = .ok (.iadd, 1) := by decide +kernel
theorem dX8_isBefore_38 : decode cX8_isBefore 38 = .ok (.iaload, 1) := by decide +kernel
theorem dX8_isBefore_39 : decode cX8_isBefore 39 = .ok (.if_icmp .ne 12, 3) := by decide +kernel
theorem dX8_isBefore_42 : decode cX8_isBefore 42 = .ok (.iload_n 1, 1) := by decide +kernel
theorem dX8_isBefore_43 : decode cX8_isBefore 43 = .ok (.iload_n 2, 1) := by decide +kernel
theorem dX8_isBefore_44 : decode cX8_isBefore 44 = .ok (.if_icmp .ge 7, 3) := by decide +kernel
theorem dX8_isBefore_47 : decode cX8_isBefore 47 = .ok (.iconst 1, 1) := by decide +kernel
theorem dX8_isBefore_48 : decode cX8_isBefore 48 = .ok (.goto 4, 3) := by decide +kernel
theorem dX8_isBefore_51 : decode cX8_isBefore 51 = .ok (.iconst 0, 1) := by decide +kernel
theorem dX8_isBefore_52 : decode cX8_isBefore 52 = .ok (.ireturn, 1) := by decide +kernel
set_option maxRecDepth 20000 in
theorem ggX8_asks_X8_favourite : GoodIn wsX8_asks wsX8_favourite := goodIn_r _ [7, 8, 1, 9, 10, 6, 11, 12, 13, 14, 19, 20, 21, 22, 23, 24, 25, 26, 27, 28, 29, 30, 31, 32, 33, 34, 35, 36, 37, 38, 39, 40] (by decide +kernel) (by decide +kernel)
set_option maxRecDepth 20000 in
theorem gX8_asks_X8_favourite : GoodIn wsX8_asks (wsV RX8 210 RX8 yX8_favourite wsX8_favourite) := goodIn_app (goodIn_of _ (by decide +kernel)) ggX8_asks_X8_favourite
set_option maxRecDepth 20000 in
theorem ggX8_asks_X8_isBefore : GoodIn wsX8_asks wsX8_isBefore := goodIn_r _ [18, 8, 19, 20, 21, 22, 23, 24, 25, 26, 27, 28, 29, 30, 31, 32, 33, 34, 35, 36, 37, 38, 39, 40] (by decide +kernel) (by decide +kernel)
set_option maxRecDepth 20000 in
theorem gX8_asks_X8_isBefore : GoodIn wsX8_asks (wsV RX8 213 RX8 yX8_isBefore wsX8_isBefore) := goodIn_app (goodIn_of _ (by decide +kernel)) ggX8_asks_X8_isBefore
theorem dX8_asks_0 : decode cX8_asks 0 = .ok (.iload_n 1, 1) := by decide +kernel
theorem dX8_asks_1 : decode cX8_asks 1 = .ok (.istore_n 2, 1) := by decide +kernel
theorem dX8_asks_2 : decode cX8_asks 2 = .ok (.aload_n 0, 1) := by decide +kernel
theorem dX8_asks_3 : decode cX8_asks 3 = .ok (.iload_n 2, 1) := by decide +kernel
theorem dX8_asks_4 : decode cX8_asks 4 = .ok (.invokevirtual 210, 3) := by decide +kernel
theorem dX8_asks_7 : decode cX8_asks 7 = .ok (.istore_n 3, 1) := by decide +kernel
theorem dX8_asks_8 : decode cX8_asks 8 = .ok (.iload_n 3, 1) := by decide +kernel
theorem dX8_asks_9 : decode cX8_asks 9 = .ok (.bipush (-4), 2) := by decide +kernel
theorem dX8_asks_11 : decode cX8_asks 11 = .ok (.if_icmp .eq 94, 3) := by decide +kernel
theorem dX8_asks_14 : decode cX8_asks 14 = .ok (.aload_n 0, 1) := by decide +kernel
theorem dX8_asks_15 : decode cX8_asks 15 = .ok (.getfield 57, 3) := by decide +kernel
theorem dX8_asks_18 : decode cX8_asks 18 = .ok (.iload_n 2, 1) := by decide +kernel
theorem dX8_asks_19 : decode cX8_asks 19 = .ok (.aload_n 0, 1) := by decide +kernel
theorem dX8_asks_20 : decode cX8_asks 20 = .ok (.getfield 57, 3) := by decide +kernel
theorem dX8_asks_23 : decode cX8_asks 23 = .ok (.iload_n 2, 1) := by decide +kernel
theorem dX8_asks_24 : decode cX8_asks 24 = .ok (.iaload, 1) := by decide +kernel
theorem dX8_asks_25 : decode cX8_asks 25 = .ok (.iconst 1, 1) := by decide +kernel
theorem dX8_asks_26 : decode cX8_asks 26 = .ok (.iload_n 3, 1) := by decide +kernel
theorem dX8_asks_27 : decode cX8_asks 27 = .ok (.ishl, 1) := by decide +kernel
theorem dX8_asks_28 : decode cX8_asks 28 = .ok (.ior, 1) := by decide +kernel
theorem dX8_asks_29 : decode cX8_asks 29 = .ok (.iastore, 1) := by decide +kernel
theorem dX8_asks_30 : decode cX8_asks 30 = .ok (.aload_n 0, 1) := by decide +kernel
theorem dX8_asks_31 : decode cX8_asks 31 = .ok (.getfield 54, 3) := by decide +kernel
theorem dX8_asks_34 : decode cX8_asks 34 = .ok (.iload_n 3, 1) := by decide +kernel
theorem dX8_asks_35 : decode cX8_asks 35 = .ok (.iaload, 1) := by decide +kernel
theorem dX8_asks_36 : decode cX8_asks 36 = .ok (.istore 4, 2) := by decide +kernel
theorem dX8_asks_38 : decode cX8_asks 38 = .ok (.iload 4, 2) := by decide +kernel
theorem dX8_asks_40 : decode cX8_asks 40 = .ok (.bipush (-4), 2) := by decide +kernel
theorem dX8_asks_42 : decode cX8_asks 42 = .ok (.if_icmp .ne 16, 3) := by decide +kernel
theorem dX8_asks_45 : decode cX8_asks 45 = .ok (.aload_n 0, 1) := by decide +kernel
theorem dX8_asks_46 : decode cX8_asks 46 = .ok (.getfield 54, 3) := by decide +kernel
theorem dX8_asks_49 : decode cX8_asks 49 = .ok (.iload_n 3, 1) := by decide +kernel
theorem dX8_asks_50 : decode cX8_asks 50 = .ok (.iload_n 2, 1) := by decide +kernel
theorem dX8_asks_51 : decode cX8_asks 51 = .ok (.iastore, 1) := by decide +kernel
theorem dX8_asks_52 : decode cX8_asks 52 = .ok (.bipush (-4), 2) := by decide +kernel
theorem dX8_asks_54 : decode cX8_asks 54 = .ok (.istore_n 3, 1) := by decide +kernel
theorem dX8_asks_55 : decode cX8_asks 55 = .ok (.goto 47, 3) := by decide +kernel
theorem dX8_asks_58 : decode cX8_asks 58 = .ok (.aload_n 0, 1) := by decide +kernel
theorem dX8_asks_59 : decode cX8_asks 59 = .ok (.iload_n 2, 1) := by decide +kernel
theorem dX8_asks_60 : decode cX8_asks 60 = .ok (.iload 4, 2) := by decide +kernel
theorem dX8_asks_62 : decode cX8_asks 62 = .ok (.invokevirtual 213, 3) := by decide +kernel
theorem dX8_asks_65 : decode cX8_asks 65 = .ok (.istore 5, 2) := by decide +kernel
theorem dX8_asks_67 : decode cX8_asks 67 = .ok (.aload_n 0, 1) := by decide +kernel
theorem dX8_asks_68 : decode cX8_asks 68 = .ok (.getfield 54, 3) := by decide +kernel
theorem dX8_asks_71 : decode cX8_asks 71 = .ok (.iload_n 3, 1) := by decide +kernel
theorem dX8_asks_72 : decode cX8_asks 72 = .ok (.iload 5, 2) := by decide +kernel
theorem dX8_asks_74 : decode cX8_asks 74 = .ok (.ifCond .eq 7, 3) := by decide +kernel
theorem dX8_asks_77 : decode cX8_asks 77 = .ok (.iload_n 2, 1) := by decide +kernel
theorem dX8_asks_78 : decode cX8_asks 78 = .ok (.goto 5, 3) := by decide +kernel
theorem dX8_asks_81 : decode cX8_asks 81 = .ok (.iload 4, 2) := by decide +kernel
theorem dX8_asks_83 : decode cX8_asks 83 = .ok (.iastore, 1) := by decide +kernel
theorem dX8_asks_84 : decode cX8_asks 84 = .ok (.iload 5, 2) := by decide +kernel
theorem dX8_asks_86 : decode cX8_asks 86 = .ok (.ifCond .eq 8, 3) := by decide +kernel
theorem dX8_asks_89 : decode cX8_asks 89 = .ok (.iload 4, 2) := by decide +kernel
theorem dX8_asks_91 : decode cX8_asks 91 = .ok (.goto 4, 3) := by decide +kernel
theorem dX8_asks_94 : decode cX8_asks 94 = .ok (.iload_n 2, 1) := by decide +kernel
theorem dX8_asks_95 : decode cX8_asks 95 = .ok (.istore_n 2, 1) := by decide +kernel
theorem dX8_asks_96 : decode cX8_asks 96 = .ok (.aload_n 0, 1) := by decide +kernel
theorem dX8_asks_97 : decode cX8_asks 97 = .ok (.iload_n 2, 1) := by decide +kernel
theorem dX8_asks_98 : decode cX8_asks 98 = .ok (.invokevirtual 210, 3) := by decide +kernel
theorem dX8_asks_101 : decode cX8_asks 101 = .ok (.istore_n 3, 1) := by decide +kernel
theorem dX8_asks_102 : decode cX8_asks 102 = .ok (.goto (-94), 3) := by decide +kernel
theorem dX8_asks_105 : decode cX8_asks 105 = .ok (.return_, 1) := by decide +kernel
set_option maxRecDepth 20000 in
theorem ggX8_bench_X8_isParty : GoodIn wsX8_bench wsX8_isParty := goodIn_r _ [8, 3, 9, 10, 7, 11, 30, 31, 32, 33, 34, 35, 36, 37, 38, 39, 40, 41, 42, 43, 44, 45, 46, 47, 48, 49, 50, 51] (by decide +kernel) (by decide +kernel)
set_option maxRecDepth 20000 in
theorem gX8_bench_X8_isParty : GoodIn wsX8_bench (wsV RX8 110 RX8 yX8_isParty wsX8_isParty) := goodIn_app (goodIn_of _ (by decide +kernel)) ggX8_bench_X8_isParty
set_option maxRecDepth 20000 in
theorem ggX8_bench_X8_asks : GoodIn wsX8_bench wsX8_asks := goodIn_r _ [15, 2, 1, 16, 17, 18, 7, 19, 3, 20, 21, 22, 23, 24, 25, 26, 27, 28, 29, 30, 31, 32, 33, 34, 35, 36, 37, 38, 39, 40, 41, 42, 43, 44, 45, 46, 47, 48, 49, 50, 51] (by decide +kernel) (by decide +kernel)
set_option maxRecDepth 20000 in
theorem gX8_bench_X8_asks : GoodIn wsX8_bench (wsV RX8 216 RX8 yX8_asks wsX8_asks) := goodIn_app (goodIn_of _ (by decide +kernel)) ggX8_bench_X8_asks
theorem dX8_bench_0 : decode cX8_bench 0 = .ok (.aload_n 0, 1) := by decide +kernel
theorem dX8_bench_1 : decode cX8_bench 1 = .ok (.iload_n 1, 1) := by decide +kernel
theorem dX8_bench_2 : decode cX8_bench 2 = .ok (.invokevirtual 110, 3) := by decide +kernel
theorem dX8_bench_5 : decode cX8_bench 5 = .ok (.ifCond .ne 5, 3) := by decide +kernel
theorem dX8_bench_8 : decode cX8_bench 8 = .ok (.iconst (-1), 1) := by decide +kernel
theorem dX8_bench_9 : decode cX8_bench 9 = .ok (.ireturn, 1) := by decide +kernel
theorem dX8_bench_10 : decode cX8_bench 10 = .ok (.iconst 0, 1) := by decide +kernel
theorem dX8_bench_11 : decode cX8_bench 11 = .ok (.istore_n 2, 1) := by decide +kernel
theorem dX8_bench_12 : decode cX8_bench 12 = .ok (.iload_n 2, 1) := by decide +kernel
theorem dX8_bench_13 : decode cX8_bench 13 = .ok (.bipush 6, 2) := by decide +kernel
theorem dX8_bench_15 : decode cX8_bench 15 = .ok (.if_icmp .ge 24, 3) := by decide +kernel
theorem dX8_bench_18 : decode cX8_bench 18 = .ok (.aload_n 0, 1) := by decide +kernel
theorem dX8_bench_19 : decode cX8_bench 19 = .ok (.getfield 54, 3) := by decide +kernel
theorem dX8_bench_22 : decode cX8_bench 22 = .ok (.iload_n 2, 1) := by decide +kernel
theorem dX8_bench_23 : decode cX8_bench 23 = .ok (.bipush (-4), 2) := by decide +kernel
theorem dX8_bench_25 : decode cX8_bench 25 = .ok (.iastore, 1) := by decide +kernel
theorem dX8_bench_26 : decode cX8_bench 26 = .ok (.aload_n 0, 1) := by decide +kernel
theorem dX8_bench_27 : decode cX8_bench 27 = .ok (.getfield 57, 3) := by decide +kernel
theorem dX8_bench_30 : decode cX8_bench 30 = .ok (.iload_n 2, 1) := by decide +kernel
theorem dX8_bench_31 : decode cX8_bench 31 = .ok (.iconst 0, 1) := by decide +kernel
theorem dX8_bench_32 : decode cX8_bench 32 = .ok (.iastore, 1) := by decide +kernel
theorem dX8_bench_33 : decode cX8_bench 33 = .ok (.iinc 2 1, 3) := by decide +kernel
theorem dX8_bench_36 : decode cX8_bench 36 = .ok (.goto (-24), 3) := by decide +kernel
theorem dX8_bench_39 : decode cX8_bench 39 = .ok (.iconst 0, 1) := by decide +kernel
theorem dX8_bench_40 : decode cX8_bench 40 = .ok (.istore_n 2, 1) := by decide +kernel
theorem dX8_bench_41 : decode cX8_bench 41 = .ok (.iload_n 2, 1) := by decide +kernel
theorem dX8_bench_42 : decode cX8_bench 42 = .ok (.aload_n 0, 1) := by decide +kernel
theorem dX8_bench_43 : decode cX8_bench 43 = .ok (.getfield 23, 3) := by decide +kernel
theorem dX8_bench_46 : decode cX8_bench 46 = .ok (.iconst 2, 1) := by decide +kernel
theorem dX8_bench_47 : decode cX8_bench 47 = .ok (.iaload, 1) := by decide +kernel
theorem dX8_bench_48 : decode cX8_bench 48 = .ok (.if_icmp .ge 14, 3) := by decide +kernel
theorem dX8_bench_51 : decode cX8_bench 51 = .ok (.aload_n 0, 1) := by decide +kernel
theorem dX8_bench_52 : decode cX8_bench 52 = .ok (.iload_n 2, 1) := by decide +kernel
theorem dX8_bench_53 : decode cX8_bench 53 = .ok (.invokevirtual 216, 3) := by decide +kernel
theorem dX8_bench_56 : decode cX8_bench 56 = .ok (.iinc 2 1, 3) := by decide +kernel
theorem dX8_bench_59 : decode cX8_bench 59 = .ok (.goto (-18), 3) := by decide +kernel
theorem dX8_bench_62 : decode cX8_bench 62 = .ok (.iconst 0, 1) := by decide +kernel
theorem dX8_bench_63 : decode cX8_bench 63 = .ok (.istore_n 2, 1) := by decide +kernel
theorem dX8_bench_64 : decode cX8_bench 64 = .ok (.iload_n 2, 1) := by decide +kernel
theorem dX8_bench_65 : decode cX8_bench 65 = .ok (.aload_n 0, 1) := by decide +kernel
theorem dX8_bench_66 : decode cX8_bench 66 = .ok (.getfield 23, 3) := by decide +kernel
theorem dX8_bench_69 : decode cX8_bench 69 = .ok (.iconst 3, 1) := by decide +kernel
theorem dX8_bench_70 : decode cX8_bench 70 = .ok (.iaload, 1) := by decide +kernel
theorem dX8_bench_71 : decode cX8_bench 71 = .ok (.if_icmp .ge 21, 3) := by decide +kernel
theorem dX8_bench_74 : decode cX8_bench 74 = .ok (.aload_n 0, 1) := by decide +kernel
theorem dX8_bench_75 : decode cX8_bench 75 = .ok (.getfield 54, 3) := by decide +kernel
theorem dX8_bench_78 : decode cX8_bench 78 = .ok (.iload_n 2, 1) := by decide +kernel
theorem dX8_bench_79 : decode cX8_bench 79 = .ok (.iaload, 1) := by decide +kernel
theorem dX8_bench_80 : decode cX8_bench 80 = .ok (.iload_n 1, 1) := by decide +kernel
theorem dX8_bench_81 : decode cX8_bench 81 = .ok (.if_icmp .ne 5, 3) := by decide +kernel
theorem dX8_bench_84 : decode cX8_bench 84 = .ok (.iload_n 2, 1) := by decide +kernel
theorem dX8_bench_85 : decode cX8_bench 85 = .ok (.ireturn, 1) := by decide +kernel
theorem dX8_bench_86 : decode cX8_bench 86 = .ok (.iinc 2 1, 3) := by decide +kernel
theorem dX8_bench_89 : decode cX8_bench 89 = .ok (.goto (-25), 3) := by decide +kernel
theorem dX8_bench_92 : decode cX8_bench 92 = .ok (.bipush (-4), 2) := by decide +kernel
theorem dX8_bench_94 : decode cX8_bench 94 = .ok (.ireturn, 1) := by decide +kernel
theorem dX8_part_0 : decode cX8_part 0 = .ok (.iload_n 0, 1) := by decide +kernel
theorem dX8_part_1 : decode cX8_part 1 = .ok (.istore_n 3, 1) := by decide +kernel
theorem dX8_part_2 : decode cX8_part 2 = .ok (.iload_n 1, 1) := by decide +kernel
theorem dX8_part_3 : decode cX8_part 3 = .ok (.istore 4, 2) := by decide +kernel
theorem dX8_part_5 : decode cX8_part 5 = .ok (.iload 4, 2) := by decide +kernel
theorem dX8_part_7 : decode cX8_part 7 = .ok (.ifCond .le 19, 3) := by decide +kernel
theorem dX8_part_10 : decode cX8_part 10 = .ok (.iload_n 3, 1) := by decide +kernel
theorem dX8_part_11 : decode cX8_part 11 = .ok (.iload 4, 2) := by decide +kernel
theorem dX8_part_13 : decode cX8_part 13 = .ok (.irem, 1) := by decide +kernel
theorem dX8_part_14 : decode cX8_part 14 = .ok (.istore 5, 2) := by decide +kernel
theorem dX8_part_16 : decode cX8_part 16 = .ok (.iload 4, 2) := by decide +kernel
theorem dX8_part_18 : decode cX8_part 18 = .ok (.istore_n 3, 1) := by decide +kernel
theorem dX8_part_19 : decode cX8_part 19 = .ok (.iload 5, 2) := by decide +kernel
theorem dX8_part_21 : decode cX8_part 21 = .ok (.istore 4, 2) := by decide +kernel
theorem dX8_part_23 : decode cX8_part 23 = .ok (.goto (-18), 3) := by decide +kernel
theorem dX8_part_26 : decode cX8_part 26 = .ok (.iload_n 2, 1) := by decide +kernel
theorem dX8_part_27 : decode cX8_part 27 = .ok (.ifCond .ne 7, 3) := by decide +kernel
theorem dX8_part_30 : decode cX8_part 30 = .ok (.iload_n 0, 1) := by decide +kernel
theorem dX8_part_31 : decode cX8_part 31 = .ok (.goto 4, 3) := by decide +kernel
theorem dX8_part_34 : decode cX8_part 34 = .ok (.iload_n 1, 1) := by decide +kernel
theorem dX8_part_35 : decode cX8_part 35 = .ok (.iload_n 3, 1) := by decide +kernel
theorem dX8_part_36 : decode cX8_part 36 = .ok (.idiv, 1) := by decide +kernel
theorem dX8_part_37 : decode cX8_part 37 = .ok (.ireturn, 1) := by decide +kernel
set_option maxRecDepth 20000 in
theorem ggX8_errors_X8_isParty : GoodIn wsX8_errors wsX8_isParty := goodIn_r _ [6, 7, 8, 9, 5, 10, 49, 50, 51, 52, 53, 54, 55, 56, 57, 58, 59, 60, 61, 62, 63, 64, 65, 66, 67, 68, 69, 70] (by decide +kernel) (by decide +kernel)
set_option maxRecDepth 20000 in
theorem gX8_errors_X8_isParty : GoodIn wsX8_errors (wsV RX8 110 RX8 yX8_isParty wsX8_isParty) := goodIn_app (goodIn_of _ (by decide +kernel)) ggX8_errors_X8_isParty
set_option maxRecDepth 20000 in
theorem ggX8_errors_X8_in : GoodIn wsX8_errors wsX8_in := goodIn_r _ [10] (by decide +kernel) (by decide +kernel)
set_option maxRecDepth 20000 in
theorem gX8_errors_X8_in : GoodIn wsX8_errors (va_wsS RX8 60 yX8_in wsX8_in) := goodIn_app (goodIn_of _ (by decide +kernel)) ggX8_errors_X8_in
set_option maxRecDepth 20000 in
theorem ggX8_errors_X8_casesLeft : GoodIn wsX8_errors wsX8_casesLeft := goodIn_r _ [14, 7, 49, 50, 51, 52, 53, 54, 55, 56, 57, 58, 59, 60, 61, 62, 63, 64, 65, 66, 67, 68, 69, 70] (by decide +kernel) (by decide +kernel)
set_option maxRecDepth 20000 in
theorem gX8_errors_X8_casesLeft : GoodIn wsX8_errors (wsV RX8 137 RX8 yX8_casesLeft wsX8_casesLeft) := goodIn_app (goodIn_of _ (by decide +kernel)) ggX8_errors_X8_casesLeft
set_option maxRecDepth 20000 in
theorem ggX8_errors_X8_begin : GoodIn wsX8_errors wsX8_begin := goodIn_r _ [18, 7, 1, 19, 20, 5, 21, 49, 50, 51, 52, 53, 54, 55, 56, 57, 58, 59, 60, 61, 62, 63, 64, 65, 66, 67, 68, 69, 70] (by decide +kernel) (by decide +kernel)
set_option maxRecDepth 20000 in
theorem gX8_errors_X8_begin : GoodIn wsX8_errors (wsV RX8 157 RX8 yX8_begin wsX8_begin) := goodIn_app (goodIn_of _ (by decide +kernel)) ggX8_errors_X8_begin
set_option maxRecDepth 20000 in
theorem ggX8_errors_X8_foundBy : GoodIn wsX8_errors wsX8_foundBy := goodIn_r _ [24] (by decide +kernel) (by decide +kernel)
set_option maxRecDepth 20000 in
theorem gX8_errors_X8_foundBy : GoodIn wsX8_errors (va_wsS RX8 122 yX8_foundBy wsX8_foundBy) := goodIn_app (goodIn_of _ (by decide +kernel)) ggX8_errors_X8_foundBy
set_option maxRecDepth 20000 in
theorem ggX8_errors_X8_has : GoodIn wsX8_errors wsX8_has := goodIn_r _ [27] (by decide +kernel) (by decide +kernel)
set_option maxRecDepth 20000 in
theorem gX8_errors_X8_has : GoodIn wsX8_errors (va_wsS RX8 164 yX8_has wsX8_has) := goodIn_app (goodIn_of _ (by decide +kernel)) ggX8_errors_X8_has
set_option maxRecDepth 20000 in
theorem ggX8_errors_X8_hears : GoodIn wsX8_errors wsX8_hears := goodIn_r _ [30, 31, 32, 5, 33, 22, 23, 24, 34, 35, 36, 37, 38, 39, 40, 41, 42, 43, 44, 45] (by decide +kernel) (by decide +kernel)
set_option maxRecDepth 20000 in
theorem gX8_errors_X8_hears : GoodIn wsX8_errors (va_wsS RX8 143 yX8_hears wsX8_hears) := goodIn_app (goodIn_of _ (by decide +kernel)) ggX8_errors_X8_hears
set_option maxRecDepth 20000 in
theorem ggX8_errors_X8_part : GoodIn wsX8_errors wsX8_part := goodIn_r _ [48] (by decide +kernel) (by decide +kernel)
set_option maxRecDepth 20000 in
theorem gX8_errors_X8_part : GoodIn wsX8_errors (va_wsS RX8 219 yX8_part wsX8_part) := goodIn_app (goodIn_of _ (by decide +kernel)) ggX8_errors_X8_part
theorem dX8_errors_0 : decode cX8_errors 0 = .ok (.aload_n 0, 1) := by decide +kernel
theorem dX8_errors_1 : decode cX8_errors 1 = .ok (.iload_n 1, 1) := by decide +kernel
theorem dX8_errors_2 : decode cX8_errors 2 = .ok (.invokevirtual 110, 3) := by decide +kernel
theorem dX8_errors_5 : decode cX8_errors 5 = .ok (.ifCond .eq 33, 3) := by decide +kernel
theorem dX8_errors_8 : decode cX8_errors 8 = .ok (.iload_n 2, 1) := by decide +kernel
theorem dX8_errors_9 : decode cX8_errors 9 = .ok (.iconst 1, 1) := by decide +kernel
theorem dX8_errors_10 : decode cX8_errors 10 = .ok (.bipush 6, 2) := by decide +kernel
theorem dX8_errors_12 : decode cX8_errors 12 = .ok (.invokestatic 60, 3) := by decide +kernel
theorem dX8_errors_15 : decode cX8_errors 15 = .ok (.ifCond .eq 23, 3) := by decide +kernel
theorem dX8_errors_18 : decode cX8_errors 18 = .ok (.iload_n 3, 1) := by decide +kernel
theorem dX8_errors_19 : decode cX8_errors 19 = .ok (.iconst 0, 1) := by decide +kernel
theorem dX8_errors_20 : decode cX8_errors 20 = .ok (.bipush 10, 2) := by decide +kernel
theorem dX8_errors_22 : decode cX8_errors 22 = .ok (.invokestatic 60, 3) := by decide +kernel
theorem dX8_errors_25 : decode cX8_errors 25 = .ok (.ifCond .eq 13, 3) := by decide +kernel
theorem dX8_errors_28 : decode cX8_errors 28 = .ok (.iload 4, 2) := by decide +kernel
theorem dX8_errors_30 : decode cX8_errors 30 = .ok (.iconst 0, 1) := by decide +kernel
theorem dX8_errors_31 : decode cX8_errors 31 = .ok (.iconst 1, 1) := by decide +kernel
theorem dX8_errors_32 : decode cX8_errors 32 = .ok (.invokestatic 60, 3) := by decide +kernel
theorem dX8_errors_35 : decode cX8_errors 35 = .ok (.ifCond .ne 5, 3) := by decide +kernel
theorem dX8_errors_38 : decode cX8_errors 38 = .ok (.iconst (-1), 1) := by decide +kernel
theorem dX8_errors_39 : decode cX8_errors 39 = .ok (.ireturn, 1) := by decide +kernel
theorem dX8_errors_40 : decode cX8_errors 40 = .ok (.iload_n 2, 1) := by decide +kernel
theorem dX8_errors_41 : decode cX8_errors 41 = .ok (.aload_n 0, 1) := by decide +kernel
theorem dX8_errors_42 : decode cX8_errors 42 = .ok (.invokevirtual 137, 3) := by decide +kernel
theorem dX8_errors_45 : decode cX8_errors 45 = .ok (.if_icmp .le 6, 3) := by decide +kernel
theorem dX8_errors_48 : decode cX8_errors 48 = .ok (.bipush (-4), 2) := by decide +kernel
theorem dX8_errors_50 : decode cX8_errors 50 = .ok (.ireturn, 1) := by decide +kernel
theorem dX8_errors_51 : decode cX8_errors 51 = .ok (.iconst 0, 1) := by decide +kernel
theorem dX8_errors_52 : decode cX8_errors 52 = .ok (.istore 5, 2) := by decide +kernel
theorem dX8_errors_54 : decode cX8_errors 54 = .ok (.iconst 1, 1) := by decide +kernel
theorem dX8_errors_55 : decode cX8_errors 55 = .ok (.istore 6, 2) := by decide +kernel
theorem dX8_errors_57 : decode cX8_errors 57 = .ok (.iconst 0, 1) := by decide +kernel
theorem dX8_errors_58 : decode cX8_errors 58 = .ok (.istore 7, 2) := by decide +kernel
theorem dX8_errors_60 : decode cX8_errors 60 = .ok (.iload 7, 2) := by decide +kernel
theorem dX8_errors_62 : decode cX8_errors 62 = .ok (.iload_n 2, 1) := by decide +kernel
theorem dX8_errors_63 : decode cX8_errors 63 = .ok (.if_icmp .ge 16, 3) := by decide +kernel
theorem dX8_errors_66 : decode cX8_errors 66 = .ok (.iload 6, 2) := by decide +kernel
theorem dX8_errors_68 : decode cX8_errors 68 = .ok (.bipush 10, 2) := by decide +kernel
theorem dX8_errors_70 : decode cX8_errors 70 = .ok (.imul, 1) := by decide +kernel
theorem dX8_errors_71 : decode cX8_errors 71 = .ok (.istore 6, 2) := by decide +kernel
theorem dX8_errors_73 : decode cX8_errors 73 = .ok (.iinc 7 1, 3) := by decide +kernel
theorem dX8_errors_76 : decode cX8_errors 76 = .ok (.goto (-16), 3) := by decide +kernel
theorem dX8_errors_79 : decode cX8_errors 79 = .ok (.iconst 0, 1) := by decide +kernel
theorem dX8_errors_80 : decode cX8_errors 80 = .ok (.istore 7, 2) := by decide +kernel
theorem dX8_errors_82 : decode cX8_errors 82 = .ok (.iload 7, 2) := by decide +kernel
theorem dX8_errors_84 : decode cX8_errors 84 = .ok (.iconst 1, 1) := by decide +kernel
theorem dX8_errors_85 : decode cX8_errors 85 = .ok (.iload_n 2, 1) := by decide +kernel
theorem dX8_errors_86 : decode cX8_errors 86 = .ok (.ishl, 1) := by decide +kernel
theorem dX8_errors_87 : decode cX8_errors 87 = .ok (.if_icmp .ge 140, 3) := by decide +kernel
theorem dX8_errors_90 : decode cX8_errors 90 = .ok (.iconst 1, 1) := by decide +kernel
theorem dX8_errors_91 : decode cX8_errors 91 = .ok (.istore 8, 2) := by decide +kernel
theorem dX8_errors_93 : decode cX8_errors 93 = .ok (.bipush (-4), 2) := by decide +kernel
theorem dX8_errors_95 : decode cX8_errors 95 = .ok (.istore 9, 2) := by decide +kernel
theorem dX8_errors_97 : decode cX8_errors 97 = .ok (.aload_n 0, 1) := by decide +kernel
theorem dX8_errors_98 : decode cX8_errors 98 = .ok (.invokevirtual 157, 3) := by decide +kernel
theorem dX8_errors_101 : decode cX8_errors 101 = .ok (.iconst 0, 1) := by decide +kernel
theorem dX8_errors_102 : decode cX8_errors 102 = .ok (.istore 10, 2) := by decide +kernel
theorem dX8_errors_104 : decode cX8_errors 104 = .ok (.iload 10, 2) := by decide +kernel
theorem dX8_errors_106 : decode cX8_errors 106 = .ok (.iload_n 2, 1) := by decide +kernel
theorem dX8_errors_107 : decode cX8_errors 107 = .ok (.if_icmp .ge 97, 3) := by decide +kernel
theorem dX8_errors_110 : decode cX8_errors 110 = .ok (.aload_n 0, 1) := by decide +kernel
theorem dX8_errors_111 : decode cX8_errors 111 = .ok (.getfield 29, 3) := by decide +kernel
theorem dX8_errors_114 : decode cX8_errors 114 = .ok (.iconst 0, 1) := by decide +kernel
theorem dX8_errors_115 : decode cX8_errors 115 = .ok (.iaload, 1) := by decide +kernel
theorem dX8_errors_116 : decode cX8_errors 116 = .ok (.istore 11, 2) := by decide +kernel
theorem dX8_errors_118 : decode cX8_errors 118 = .ok (.aload_n 0, 1) := by decide +kernel
