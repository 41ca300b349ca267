variable {p : Program} {l : Launch} {e : Env} {s : State} {m : MethodId} {av : Array Value} {below : List Frame} {meth : Method} {c : Code} {g : GX} {q : Nat → Nat} {A : Nat → Prop}
theorem d_M_onePart_0 : decode prog_13_method_34_code 0 = .ok (.iconst 1, 1) := by decide +kernel
theorem d_M_onePart_1 : decode prog_13_method_34_code 1 = .ok (.istore_n 1, 1) := by decide +kernel
theorem d_M_onePart_2 : decode prog_13_method_34_code 2 = .ok (.iload_n 1, 1) := by decide +kernel
theorem d_M_onePart_3 : decode prog_13_method_34_code 3 = .ok (.ifCond .eq 143, 3) := by decide +kernel
theorem d_M_onePart_6 : decode prog_13_method_34_code 6 = .ok (.aload_n 0, 1) := by decide +kernel
theorem d_M_onePart_7 : decode prog_13_method_34_code 7 = .ok (.getfield 158, 3) := by decide +kernel
theorem d_M_onePart_10 : decode prog_13_method_34_code 10 = .ok (.ifCond .ne 136, 3) := by decide +kernel
theorem d_M_onePart_13 : decode prog_13_method_34_code 13 = .ok (.aload_n 0, 1) := by decide +kernel
theorem d_M_onePart_14 : decode prog_13_method_34_code 14 = .ok (.invokevirtual 170, 3) := by decide +kernel
theorem d_M_onePart_17 : decode prog_13_method_34_code 17 = .ok (.istore_n 2, 1) := by decide +kernel
theorem d_M_onePart_18 : decode prog_13_method_34_code 18 = .ok (.iload_n 2, 1) := by decide +kernel
theorem d_M_onePart_19 : decode prog_13_method_34_code 19 = .ok (.bipush 40, 2) := by decide +kernel
theorem d_M_onePart_21 : decode prog_13_method_34_code 21 = .ok (.if_icmp .ne 26, 3) := by decide +kernel
theorem d_M_onePart_24 : decode prog_13_method_34_code 24 = .ok (.aload_n 0, 1) := by decide +kernel
theorem d_M_onePart_25 : decode prog_13_method_34_code 25 = .ok (.bipush 20, 2) := by decide +kernel
theorem d_M_onePart_27 : decode prog_13_method_34_code 27 = .ok (.aload_n 0, 1) := by decide +kernel
theorem d_M_onePart_28 : decode prog_13_method_34_code 28 = .ok (.getfield 164, 3) := by decide +kernel
theorem d_M_onePart_31 : decode prog_13_method_34_code 31 = .ok (.invokevirtual 293, 3) := by decide +kernel
theorem d_M_onePart_34 : decode prog_13_method_34_code 34 = .ok (.aload_n 0, 1) := by decide +kernel
theorem d_M_onePart_35 : decode prog_13_method_34_code 35 = .ok (.dup, 1) := by decide +kernel
theorem d_M_onePart_36 : decode prog_13_method_34_code 36 = .ok (.getfield 164, 3) := by decide +kernel
theorem d_M_onePart_39 : decode prog_13_method_34_code 39 = .ok (.iconst 1, 1) := by decide +kernel
theorem d_M_onePart_40 : decode prog_13_method_34_code 40 = .ok (.iadd, 1) := by decide +kernel
theorem d_M_onePart_41 : decode prog_13_method_34_code 41 = .ok (.putfield 164, 3) := by decide +kernel
theorem d_M_onePart_44 : decode prog_13_method_34_code 44 = .ok (.goto 99, 3) := by decide +kernel
theorem d_M_onePart_47 : decode prog_13_method_34_code 47 = .ok (.aload_n 0, 1) := by decide +kernel
theorem d_M_onePart_48 : decode prog_13_method_34_code 48 = .ok (.aload_n 0, 1) := by decide +kernel
theorem d_M_onePart_49 : decode prog_13_method_34_code 49 = .ok (.getfield 96, 3) := by decide +kernel
theorem d_M_onePart_52 : decode prog_13_method_34_code 52 = .ok (.invokevirtual 181, 3) := by decide +kernel
theorem d_M_onePart_55 : decode prog_13_method_34_code 55 = .ok (.ifCond .ne 14, 3) := by decide +kernel
theorem d_M_onePart_58 : decode prog_13_method_34_code 58 = .ok (.aload_n 0, 1) := by decide +kernel
theorem d_M_onePart_59 : decode prog_13_method_34_code 59 = .ok (.aload_n 0, 1) := by decide +kernel
theorem d_M_onePart_60 : decode prog_13_method_34_code 60 = .ok (.getfield 99, 3) := by decide +kernel
theorem d_M_onePart_63 : decode prog_13_method_34_code 63 = .ok (.invokevirtual 181, 3) := by decide +kernel
theorem d_M_onePart_66 : decode prog_13_method_34_code 66 = .ok (.ifCond .eq 75, 3) := by decide +kernel
theorem d_M_onePart_69 : decode prog_13_method_34_code 69 = .ok (.aload_n 0, 1) := by decide +kernel
theorem d_M_onePart_70 : decode prog_13_method_34_code 70 = .ok (.aload_n 0, 1) := by decide +kernel
theorem d_M_onePart_71 : decode prog_13_method_34_code 71 = .ok (.getfield 96, 3) := by decide +kernel
theorem d_M_onePart_74 : decode prog_13_method_34_code 74 = .ok (.invokevirtual 185, 3) := by decide +kernel
theorem d_M_onePart_77 : decode prog_13_method_34_code 77 = .ok (.istore_n 3, 1) := by decide +kernel
theorem d_M_onePart_78 : decode prog_13_method_34_code 78 = .ok (.iload_n 3, 1) := by decide +kernel
theorem d_M_onePart_79 : decode prog_13_method_34_code 79 = .ok (.ifCond .ne 11, 3) := by decide +kernel
theorem d_M_onePart_82 : decode prog_13_method_34_code 82 = .ok (.aload_n 0, 1) := by decide +kernel
theorem d_M_onePart_83 : decode prog_13_method_34_code 83 = .ok (.aload_n 0, 1) := by decide +kernel
theorem d_M_onePart_84 : decode prog_13_method_34_code 84 = .ok (.getfield 99, 3) := by decide +kernel
theorem d_M_onePart_87 : decode prog_13_method_34_code 87 = .ok (.invokevirtual 224, 3) := by decide +kernel
theorem d_M_onePart_90 : decode prog_13_method_34_code 90 = .ok (.aload_n 0, 1) := by decide +kernel
theorem d_M_onePart_91 : decode prog_13_method_34_code 91 = .ok (.invokevirtual 170, 3) := by decide +kernel
theorem d_M_onePart_94 : decode prog_13_method_34_code 94 = .ok (.bipush 40, 2) := by decide +kernel
theorem d_M_onePart_96 : decode prog_13_method_34_code 96 = .ok (.if_icmp .ne 10, 3) := by decide +kernel
theorem d_M_onePart_99 : decode prog_13_method_34_code 99 = .ok (.aload_n 0, 1) := by decide +kernel
theorem d_M_onePart_100 : decode prog_13_method_34_code 100 = .ok (.getfield 164, 3) := by decide +kernel
theorem d_M_onePart_103 : decode prog_13_method_34_code 103 = .ok (.goto 4, 3) := by decide +kernel
theorem d_M_onePart_106 : decode prog_13_method_34_code 106 = .ok (.iconst (-1), 1) := by decide +kernel
theorem d_M_onePart_107 : decode prog_13_method_34_code 107 = .ok (.istore 4, 2) := by decide +kernel
theorem d_M_onePart_109 : decode prog_13_method_34_code 109 = .ok (.iload 4, 2) := by decide +kernel
theorem d_M_onePart_111 : decode prog_13_method_34_code 111 = .ok (.iconst (-1), 1) := by decide +kernel
theorem d_M_onePart_112 : decode prog_13_method_34_code 112 = .ok (.if_icmp .eq 20, 3) := by decide +kernel
theorem d_M_onePart_115 : decode prog_13_method_34_code 115 = .ok (.aload_n 0, 1) := by decide +kernel
theorem d_M_onePart_116 : decode prog_13_method_34_code 116 = .ok (.iload_n 3, 1) := by decide +kernel
theorem d_M_onePart_117 : decode prog_13_method_34_code 117 = .ok (.ifCond .eq 8, 3) := by decide +kernel
theorem d_M_onePart_120 : decode prog_13_method_34_code 120 = .ok (.bipush 21, 2) := by decide +kernel
theorem d_M_onePart_122 : decode prog_13_method_34_code 122 = .ok (.goto 5, 3) := by decide +kernel
theorem d_M_onePart_125 : decode prog_13_method_34_code 125 = .ok (.bipush 22, 2) := by decide +kernel
theorem d_M_onePart_127 : decode prog_13_method_34_code 127 = .ok (.iload 4, 2) := by decide +kernel
theorem d_M_onePart_129 : decode prog_13_method_34_code 129 = .ok (.invokevirtual 293, 3) := by decide +kernel
theorem d_M_onePart_132 : decode prog_13_method_34_code 132 = .ok (.aload_n 0, 1) := by decide +kernel
theorem d_M_onePart_133 : decode prog_13_method_34_code 133 = .ok (.bipush 40, 2) := by decide +kernel
theorem d_M_onePart_135 : decode prog_13_method_34_code 135 = .ok (.invokevirtual 266, 3) := by decide +kernel
theorem d_M_onePart_138 : decode prog_13_method_34_code 138 = .ok (.goto 5, 3) := by decide +kernel
theorem d_M_onePart_141 : decode prog_13_method_34_code 141 = .ok (.iconst 0, 1) := by decide +kernel
theorem d_M_onePart_142 : decode prog_13_method_34_code 142 = .ok (.istore_n 1, 1) := by decide +kernel
theorem d_M_onePart_143 : decode prog_13_method_34_code 143 = .ok (.goto (-141), 3) := by decide +kernel
theorem d_M_onePart_146 : decode prog_13_method_34_code 146 = .ok (.aload_n 0, 1) := by decide +kernel
theorem d_M_onePart_147 : decode prog_13_method_34_code 147 = .ok (.getfield 158, 3) := by decide +kernel
theorem d_M_onePart_150 : decode prog_13_method_34_code 150 = .ok (.ifCond .eq 4, 3) := by decide +kernel
theorem d_M_onePart_153 : decode prog_13_method_34_code 153 = .ok (.return_, 1) := by decide +kernel
theorem d_M_onePart_154 : decode prog_13_method_34_code 154 = .ok (.aload_n 0, 1) := by decide +kernel
theorem d_M_onePart_155 : decode prog_13_method_34_code 155 = .ok (.aload_n 0, 1) := by decide +kernel
theorem d_M_onePart_156 : decode prog_13_method_34_code 156 = .ok (.getfield 66, 3) := by decide +kernel
theorem d_M_onePart_159 : decode prog_13_method_34_code 159 = .ok (.invokevirtual 185, 3) := by decide +kernel
theorem d_M_onePart_162 : decode prog_13_method_34_code 162 = .ok (.ifCond .eq 8, 3) := by decide +kernel
theorem d_M_onePart_165 : decode prog_13_method_34_code 165 = .ok (.bipush 7, 2) := by decide +kernel
theorem d_M_onePart_167 : decode prog_13_method_34_code 167 = .ok (.goto 84, 3) := by decide +kernel
theorem d_M_onePart_170 : decode prog_13_method_34_code 170 = .ok (.aload_n 0, 1) := by decide +kernel
theorem d_M_onePart_171 : decode prog_13_method_34_code 171 = .ok (.aload_n 0, 1) := by decide +kernel
theorem d_M_onePart_172 : decode prog_13_method_34_code 172 = .ok (.getfield 75, 3) := by decide +kernel
theorem d_M_onePart_175 : decode prog_13_method_34_code 175 = .ok (.invokevirtual 185, 3) := by decide +kernel
theorem d_M_onePart_178 : decode prog_13_method_34_code 178 = .ok (.ifCond .eq 8, 3) := by decide +kernel
theorem d_M_onePart_181 : decode prog_13_method_34_code 181 = .ok (.bipush 8, 2) := by decide +kernel
theorem d_M_onePart_183 : decode prog_13_method_34_code 183 = .ok (.goto 68, 3) := by decide +kernel
theorem d_M_onePart_186 : decode prog_13_method_34_code 186 = .ok (.aload_n 0, 1) := by decide +kernel
theorem d_M_onePart_187 : decode prog_13_method_34_code 187 = .ok (.aload_n 0, 1) := by decide +kernel
theorem d_M_onePart_188 : decode prog_13_method_34_code 188 = .ok (.getfield 78, 3) := by decide +kernel
theorem d_M_onePart_191 : decode prog_13_method_34_code 191 = .ok (.invokevirtual 185, 3) := by decide +kernel
theorem d_M_onePart_194 : decode prog_13_method_34_code 194 = .ok (.ifCond .eq 8, 3) := by decide +kernel
theorem d_M_onePart_197 : decode prog_13_method_34_code 197 = .ok (.bipush 9, 2) := by decide +kernel
theorem d_M_onePart_199 : decode prog_13_method_34_code 199 = .ok (.goto 52, 3) := by decide +kernel
theorem d_M_onePart_202 : decode prog_13_method_34_code 202 = .ok (.aload_n 0, 1) := by decide +kernel
theorem d_M_onePart_203 : decode prog_13_method_34_code 203 = .ok (.aload_n 0, 1) := by decide +kernel
theorem d_M_onePart_204 : decode prog_13_method_34_code 204 = .ok (.getfield 45, 3) := by decide +kernel
theorem d_M_onePart_207 : decode prog_13_method_34_code 207 = .ok (.invokevirtual 185, 3) := by decide +kernel
theorem d_M_onePart_210 : decode prog_13_method_34_code 210 = .ok (.ifCond .eq 8, 3) := by decide +kernel
theorem d_M_onePart_213 : decode prog_13_method_34_code 213 = .ok (.bipush 10, 2) := by decide +kernel
theorem d_M_onePart_215 : decode prog_13_method_34_code 215 = .ok (.goto 36, 3) := by decide +kernel
theorem d_M_onePart_218 : decode prog_13_method_34_code 218 = .ok (.aload_n 0, 1) := by decide +kernel
theorem d_M_onePart_219 : decode prog_13_method_34_code 219 = .ok (.aload_n 0, 1) := by decide +kernel
theorem d_M_onePart_220 : decode prog_13_method_34_code 220 = .ok (.getfield 81, 3) := by decide +kernel
theorem d_M_onePart_223 : decode prog_13_method_34_code 223 = .ok (.invokevirtual 185, 3) := by decide +kernel
theorem d_M_onePart_226 : decode prog_13_method_34_code 226 = .ok (.ifCond .eq 8, 3) := by decide +kernel
theorem d_M_onePart_229 : decode prog_13_method_34_code 229 = .ok (.bipush 11, 2) := by decide +kernel
theorem d_M_onePart_231 : decode prog_13_method_34_code 231 = .ok (.goto 20, 3) := by decide +kernel
theorem d_M_onePart_234 : decode prog_13_method_34_code 234 = .ok (.aload_n 0, 1) := by decide +kernel
theorem d_M_onePart_235 : decode prog_13_method_34_code 235 = .ok (.aload_n 0, 1) := by decide +kernel
theorem d_M_onePart_236 : decode prog_13_method_34_code 236 = .ok (.getfield 39, 3) := by decide +kernel
theorem d_M_onePart_239 : decode prog_13_method_34_code 239 = .ok (.invokevirtual 185, 3) := by decide +kernel
theorem d_M_onePart_242 : decode prog_13_method_34_code 242 = .ok (.ifCond .eq 8, 3) := by decide +kernel
theorem d_M_onePart_245 : decode prog_13_method_34_code 245 = .ok (.bipush 12, 2) := by decide +kernel
theorem d_M_onePart_247 : decode prog_13_method_34_code 247 = .ok (.goto 4, 3) := by decide +kernel
theorem d_M_onePart_250 : decode prog_13_method_34_code 250 = .ok (.iconst (-1), 1) := by decide +kernel
theorem d_M_onePart_251 : decode prog_13_method_34_code 251 = .ok (.istore_n 2, 1) := by decide +kernel
theorem d_M_onePart_252 : decode prog_13_method_34_code 252 = .ok (.aload_n 0, 1) := by decide +kernel
theorem d_M_onePart_253 : decode prog_13_method_34_code 253 = .ok (.iload_n 2, 1) := by decide +kernel
theorem d_M_onePart_254 : decode prog_13_method_34_code 254 = .ok (.iconst (-1), 1) := by decide +kernel
theorem d_M_onePart_255 : decode prog_13_method_34_code 255 = .ok (.if_icmp .eq 7, 3) := by decide +kernel
theorem d_M_onePart_258 : decode prog_13_method_34_code 258 = .ok (.iload_n 2, 1) := by decide +kernel
theorem d_M_onePart_259 : decode prog_13_method_34_code 259 = .ok (.goto 15, 3) := by decide +kernel
theorem d_M_onePart_262 : decode prog_13_method_34_code 262 = .ok (.sipush 1000, 3) := by decide +kernel
theorem d_M_onePart_265 : decode prog_13_method_34_code 265 = .ok (.aload_n 0, 1) := by decide +kernel
theorem d_M_onePart_266 : decode prog_13_method_34_code 266 = .ok (.iconst 0, 1) := by decide +kernel
theorem d_M_onePart_267 : decode prog_13_method_34_code 267 = .ok (.sipush 9999, 3) := by decide +kernel
theorem d_M_onePart_270 : decode prog_13_method_34_code 270 = .ok (.invokevirtual 228, 3) := by decide +kernel
theorem d_M_onePart_273 : decode prog_13_method_34_code 273 = .ok (.iadd, 1) := by decide +kernel
theorem d_M_onePart_274 : decode prog_13_method_34_code 274 = .ok (.invokevirtual 284, 3) := by decide +kernel
theorem d_M_onePart_277 : decode prog_13_method_34_code 277 = .ok (.return_, 1) := by decide +kernel
theorem d_M_isOn_0 : decode prog_13_method_29_code 0 = .ok (.aload_n 0, 1) := by decide +kernel
theorem d_M_isOn_1 : decode prog_13_method_29_code 1 = .ok (.getfield 232, 3) := by decide +kernel
theorem d_M_isOn_4 : decode prog_13_method_29_code 4 = .ok (.ifCond .le 22, 3) := by decide +kernel
theorem d_M_isOn_7 : decode prog_13_method_29_code 7 = .ok (.aload_n 0, 1) := by decide +kernel
theorem d_M_isOn_8 : decode prog_13_method_29_code 8 = .ok (.getfield 121, 3) := by decide +kernel
theorem d_M_isOn_11 : decode prog_13_method_29_code 11 = .ok (.aload_n 0, 1) := by decide +kernel
theorem d_M_isOn_12 : decode prog_13_method_29_code 12 = .ok (.getfield 232, 3) := by decide +kernel
theorem d_M_isOn_15 : decode prog_13_method_29_code 15 = .ok (.iconst 1, 1) := by decide +kernel
theorem d_M_isOn_16 : decode prog_13_method_29_code 16 = .ok (.isub, 1) := by decide +kernel
theorem d_M_isOn_17 : decode prog_13_method_29_code 17 = .ok (.iaload, 1) := by decide +kernel
theorem d_M_isOn_18 : decode prog_13_method_29_code 18 = .ok (.iload_n 1, 1) := by decide +kernel
theorem d_M_isOn_19 : decode prog_13_method_29_code 19 = .ok (.if_icmp .ne 7, 3) := by decide +kernel
theorem d_M_isOn_22 : decode prog_13_method_29_code 22 = .ok (.iconst 1, 1) := by decide +kernel
theorem d_M_isOn_23 : decode prog_13_method_29_code 23 = .ok (.goto 4, 3) := by decide +kernel
theorem d_M_isOn_26 : decode prog_13_method_29_code 26 = .ok (.iconst 0, 1) := by decide +kernel
theorem d_M_isOn_27 : decode prog_13_method_29_code 27 = .ok (.ireturn, 1) := by decide +kernel
theorem d_M_isMark_0 : decode prog_13_method_31_code 0 = .ok (.iload_n 1, 1) := by decide +kernel
theorem d_M_isMark_1 : decode prog_13_method_31_code 1 = .ok (.bipush 20, 2) := by decide +kernel
theorem d_M_isMark_3 : decode prog_13_method_31_code 3 = .ok (.if_icmp .lt 13, 3) := by decide +kernel
theorem d_M_isMark_6 : decode prog_13_method_31_code 6 = .ok (.iload_n 1, 1) := by decide +kernel
theorem d_M_isMark_7 : decode prog_13_method_31_code 7 = .ok (.bipush 24, 2) := by decide +kernel
theorem d_M_isMark_9 : decode prog_13_method_31_code 9 = .ok (.if_icmp .gt 7, 3) := by decide +kernel
theorem d_M_isMark_12 : decode prog_13_method_31_code 12 = .ok (.iconst 1, 1) := by decide +kernel
theorem d_M_isMark_13 : decode prog_13_method_31_code 13 = .ok (.goto 4, 3) := by decide +kernel
theorem d_M_isMark_16 : decode prog_13_method_31_code 16 = .ok (.iconst 0, 1) := by decide +kernel
theorem d_M_isMark_17 : decode prog_13_method_31_code 17 = .ok (.ireturn, 1) := by decide +kernel
theorem d_M_waitsLast_0 : decode prog_13_method_32_code 0 = .ok (.aload_n 0, 1) := by decide +kernel
theorem d_M_waitsLast_1 : decode prog_13_method_32_code 1 = .ok (.getfield 232, 3) := by decide +kernel
theorem d_M_waitsLast_4 : decode prog_13_method_32_code 4 = .ok (.iconst 1, 1) := by decide +kernel
theorem d_M_waitsLast_5 : decode prog_13_method_32_code 5 = .ok (.isub, 1) := by decide +kernel
theorem d_M_waitsLast_6 : decode prog_13_method_32_code 6 = .ok (.istore_n 1, 1) := by decide +kernel
theorem d_M_waitsLast_7 : decode prog_13_method_32_code 7 = .ok (.iload_n 1, 1) := by decide +kernel
theorem d_M_waitsLast_8 : decode prog_13_method_32_code 8 = .ok (.aload_n 0, 1) := by decide +kernel
theorem d_M_waitsLast_9 : decode prog_13_method_32_code 9 = .ok (.getfield 238, 3) := by decide +kernel
theorem d_M_waitsLast_12 : decode prog_13_method_32_code 12 = .ok (.if_icmp .lt 22, 3) := by decide +kernel
theorem d_M_waitsLast_15 : decode prog_13_method_32_code 15 = .ok (.aload_n 0, 1) := by decide +kernel
theorem d_M_waitsLast_16 : decode prog_13_method_32_code 16 = .ok (.aload_n 0, 1) := by decide +kernel
theorem d_M_waitsLast_17 : decode prog_13_method_32_code 17 = .ok (.getfield 121, 3) := by decide +kernel
theorem d_M_waitsLast_20 : decode prog_13_method_32_code 20 = .ok (.iload_n 1, 1) := by decide +kernel
theorem d_M_waitsLast_21 : decode prog_13_method_32_code 21 = .ok (.iaload, 1) := by decide +kernel
theorem d_M_waitsLast_22 : decode prog_13_method_32_code 22 = .ok (.invokevirtual 287, 3) := by decide +kernel
theorem d_M_waitsLast_25 : decode prog_13_method_32_code 25 = .ok (.ifCond .ne 9, 3) := by decide +kernel
theorem d_M_waitsLast_28 : decode prog_13_method_32_code 28 = .ok (.iinc 1 (-1), 3) := by decide +kernel
theorem d_M_waitsLast_31 : decode prog_13_method_32_code 31 = .ok (.goto (-24), 3) := by decide +kernel
theorem d_M_waitsLast_34 : decode prog_13_method_32_code 34 = .ok (.iload_n 1, 1) := by decide +kernel
theorem d_M_waitsLast_35 : decode prog_13_method_32_code 35 = .ok (.aload_n 0, 1) := by decide +kernel
theorem d_M_waitsLast_36 : decode prog_13_method_32_code 36 = .ok (.getfield 238, 3) := by decide +kernel
theorem d_M_waitsLast_39 : decode prog_13_method_32_code 39 = .ok (.if_icmp .lt 12, 3) := by decide +kernel
theorem d_M_waitsLast_42 : decode prog_13_method_32_code 42 = .ok (.aload_n 0, 1) := by decide +kernel
theorem d_M_waitsLast_43 : decode prog_13_method_32_code 43 = .ok (.getfield 121, 3) := by decide +kernel
theorem d_M_waitsLast_46 : decode prog_13_method_32_code 46 = .ok (.iload_n 1, 1) := by decide +kernel
theorem d_M_waitsLast_47 : decode prog_13_method_32_code 47 = .ok (.iaload, 1) := by decide +kernel
theorem d_M_waitsLast_48 : decode prog_13_method_32_code 48 = .ok (.goto 4, 3) := by decide +kernel
theorem d_M_waitsLast_51 : decode prog_13_method_32_code 51 = .ok (.iconst (-1), 1) := by decide +kernel
theorem d_M_waitsLast_52 : decode prog_13_method_32_code 52 = .ok (.ireturn, 1) := by decide +kernel
theorem d_M_dropsToMark_0 : decode prog_13_method_33_code 0 = .ok (.aload_n 0, 1) := by decide +kernel
theorem d_M_dropsToMark_1 : decode prog_13_method_33_code 1 = .ok (.getfield 232, 3) := by decide +kernel
theorem d_M_dropsToMark_4 : decode prog_13_method_33_code 4 = .ok (.aload_n 0, 1) := by decide +kernel
theorem d_M_dropsToMark_5 : decode prog_13_method_33_code 5 = .ok (.getfield 238, 3) := by decide +kernel
theorem d_M_dropsToMark_8 : decode prog_13_method_33_code 8 = .ok (.if_icmp .le 28, 3) := by decide +kernel
theorem d_M_dropsToMark_11 : decode prog_13_method_33_code 11 = .ok (.aload_n 0, 1) := by decide +kernel
theorem d_M_dropsToMark_12 : decode prog_13_method_33_code 12 = .ok (.aload_n 0, 1) := by decide +kernel
theorem d_M_dropsToMark_13 : decode prog_13_method_33_code 13 = .ok (.getfield 121, 3) := by decide +kernel
theorem d_M_dropsToMark_16 : decode prog_13_method_33_code 16 = .ok (.aload_n 0, 1) := by decide +kernel
theorem d_M_dropsToMark_17 : decode prog_13_method_33_code 17 = .ok (.getfield 232, 3) := by decide +kernel
theorem d_M_dropsToMark_20 : decode prog_13_method_33_code 20 = .ok (.iconst 1, 1) := by decide +kernel
theorem d_M_dropsToMark_21 : decode prog_13_method_33_code 21 = .ok (.isub, 1) := by decide +kernel
theorem d_M_dropsToMark_22 : decode prog_13_method_33_code 22 = .ok (.iaload, 1) := by decide +kernel
theorem d_M_dropsToMark_23 : decode prog_13_method_33_code 23 = .ok (.invokevirtual 287, 3) := by decide +kernel
theorem d_M_dropsToMark_26 : decode prog_13_method_33_code 26 = .ok (.ifCond .ne 10, 3) := by decide +kernel
theorem d_M_dropsToMark_29 : decode prog_13_method_33_code 29 = .ok (.aload_n 0, 1) := by decide +kernel
theorem d_M_dropsToMark_30 : decode prog_13_method_33_code 30 = .ok (.invokevirtual 290, 3) := by decide +kernel
theorem d_M_dropsToMark_33 : decode prog_13_method_33_code 33 = .ok (.goto (-33), 3) := by decide +kernel
theorem d_M_dropsToMark_36 : decode prog_13_method_33_code 36 = .ok (.return_, 1) := by decide +kernel
theorem d_M_goesOn_0 : decode prog_13_method_35_code 0 = .ok (.aload_n 0, 1) := by decide +kernel
theorem d_M_goesOn_1 : decode prog_13_method_35_code 1 = .ok (.getfield 158, 3) := by decide +kernel
theorem d_M_goesOn_4 : decode prog_13_method_35_code 4 = .ok (.ifCond .ne 114, 3) := by decide +kernel
theorem d_M_goesOn_7 : decode prog_13_method_35_code 7 = .ok (.aload_n 0, 1) := by decide +kernel
theorem d_M_goesOn_8 : decode prog_13_method_35_code 8 = .ok (.invokevirtual 170, 3) := by decide +kernel
theorem d_M_goesOn_11 : decode prog_13_method_35_code 11 = .ok (.bipush 41, 2) := by decide +kernel
theorem d_M_goesOn_13 : decode prog_13_method_35_code 13 = .ok (.if_icmp .ne 105, 3) := by decide +kernel
theorem d_M_goesOn_16 : decode prog_13_method_35_code 16 = .ok (.aload_n 0, 1) := by decide +kernel
theorem d_M_goesOn_17 : decode prog_13_method_35_code 17 = .ok (.invokevirtual 296, 3) := by decide +kernel
theorem d_M_goesOn_20 : decode prog_13_method_35_code 20 = .ok (.bipush 20, 2) := by decide +kernel
theorem d_M_goesOn_22 : decode prog_13_method_35_code 22 = .ok (.if_icmp .eq 21, 3) := by decide +kernel
theorem d_M_goesOn_25 : decode prog_13_method_35_code 25 = .ok (.aload_n 0, 1) := by decide +kernel
theorem d_M_goesOn_26 : decode prog_13_method_35_code 26 = .ok (.invokevirtual 296, 3) := by decide +kernel
theorem d_M_goesOn_29 : decode prog_13_method_35_code 29 = .ok (.bipush 23, 2) := by decide +kernel
theorem d_M_goesOn_31 : decode prog_13_method_35_code 31 = .ok (.if_icmp .eq 12, 3) := by decide +kernel
theorem d_M_goesOn_34 : decode prog_13_method_35_code 34 = .ok (.aload_n 0, 1) := by decide +kernel
theorem d_M_goesOn_35 : decode prog_13_method_35_code 35 = .ok (.invokevirtual 296, 3) := by decide +kernel
theorem d_M_goesOn_38 : decode prog_13_method_35_code 38 = .ok (.bipush 24, 2) := by decide +kernel
theorem d_M_goesOn_40 : decode prog_13_method_35_code 40 = .ok (.if_icmp .ne 78, 3) := by decide +kernel
theorem d_M_goesOn_43 : decode prog_13_method_35_code 43 = .ok (.aload_n 0, 1) := by decide +kernel
theorem d_M_goesOn_44 : decode prog_13_method_35_code 44 = .ok (.dup, 1) := by decide +kernel
theorem d_M_goesOn_45 : decode prog_13_method_35_code 45 = .ok (.getfield 164, 3) := by decide +kernel
theorem d_M_goesOn_48 : decode prog_13_method_35_code 48 = .ok (.iconst 1, 1) := by decide +kernel
theorem d_M_goesOn_49 : decode prog_13_method_35_code 49 = .ok (.iadd, 1) := by decide +kernel
theorem d_M_goesOn_50 : decode prog_13_method_35_code 50 = .ok (.putfield 164, 3) := by decide +kernel
theorem d_M_goesOn_53 : decode prog_13_method_35_code 53 = .ok (.aload_n 0, 1) := by decide +kernel
theorem d_M_goesOn_54 : decode prog_13_method_35_code 54 = .ok (.invokevirtual 299, 3) := by decide +kernel
theorem d_M_goesOn_57 : decode prog_13_method_35_code 57 = .ok (.aload_n 0, 1) := by decide +kernel
theorem d_M_goesOn_58 : decode prog_13_method_35_code 58 = .ok (.dup, 1) := by decide +kernel
theorem d_M_goesOn_59 : decode prog_13_method_35_code 59 = .ok (.getfield 232, 3) := by decide +kernel
theorem d_M_goesOn_62 : decode prog_13_method_35_code 62 = .ok (.iconst 1, 1) := by decide +kernel
theorem d_M_goesOn_63 : decode prog_13_method_35_code 63 = .ok (.isub, 1) := by decide +kernel
theorem d_M_goesOn_64 : decode prog_13_method_35_code 64 = .ok (.putfield 232, 3) := by decide +kernel
theorem d_M_goesOn_67 : decode prog_13_method_35_code 67 = .ok (.aload_n 0, 1) := by decide +kernel
theorem d_M_goesOn_68 : decode prog_13_method_35_code 68 = .ok (.dup, 1) := by decide +kernel
theorem d_M_goesOn_69 : decode prog_13_method_35_code 69 = .ok (.getfield 235, 3) := by decide +kernel
theorem d_M_goesOn_72 : decode prog_13_method_35_code 72 = .ok (.iconst 1, 1) := by decide +kernel
theorem d_M_goesOn_73 : decode prog_13_method_35_code 73 = .ok (.isub, 1) := by decide +kernel
theorem d_M_goesOn_74 : decode prog_13_method_35_code 74 = .ok (.putfield 235, 3) := by decide +kernel
theorem d_M_goesOn_77 : decode prog_13_method_35_code 77 = .ok (.aload_n 0, 1) := by decide +kernel
theorem d_M_goesOn_78 : decode prog_13_method_35_code 78 = .ok (.getfield 121, 3) := by decide +kernel
theorem d_M_goesOn_81 : decode prog_13_method_35_code 81 = .ok (.aload_n 0, 1) := by decide +kernel
theorem d_M_goesOn_82 : decode prog_13_method_35_code 82 = .ok (.getfield 232, 3) := by decide +kernel
theorem d_M_goesOn_85 : decode prog_13_method_35_code 85 = .ok (.iaload, 1) := by decide +kernel
theorem d_M_goesOn_86 : decode prog_13_method_35_code 86 = .ok (.bipush 20, 2) := by decide +kernel
theorem d_M_goesOn_88 : decode prog_13_method_35_code 88 = .ok (.if_icmp .eq (-88), 3) := by decide +kernel
theorem d_M_goesOn_91 : decode prog_13_method_35_code 91 = .ok (.aload_n 0, 1) := by decide +kernel
theorem d_M_goesOn_92 : decode prog_13_method_35_code 92 = .ok (.aload_n 0, 1) := by decide +kernel
theorem d_M_goesOn_93 : decode prog_13_method_35_code 93 = .ok (.getfield 121, 3) := by decide +kernel
theorem d_M_goesOn_96 : decode prog_13_method_35_code 96 = .ok (.aload_n 0, 1) := by decide +kernel
theorem d_M_goesOn_97 : decode prog_13_method_35_code 97 = .ok (.getfield 232, 3) := by decide +kernel
theorem d_M_goesOn_100 : decode prog_13_method_35_code 100 = .ok (.iaload, 1) := by decide +kernel
theorem d_M_goesOn_101 : decode prog_13_method_35_code 101 = .ok (.bipush 23, 2) := by decide +kernel
theorem d_M_goesOn_103 : decode prog_13_method_35_code 103 = .ok (.if_icmp .ne 7, 3) := by decide +kernel
theorem d_M_goesOn_106 : decode prog_13_method_35_code 106 = .ok (.iconst 5, 1) := by decide +kernel
theorem d_M_goesOn_107 : decode prog_13_method_35_code 107 = .ok (.goto 5, 3) := by decide +kernel
theorem d_M_goesOn_110 : decode prog_13_method_35_code 110 = .ok (.bipush 6, 2) := by decide +kernel
theorem d_M_goesOn_112 : decode prog_13_method_35_code 112 = .ok (.invokevirtual 284, 3) := by decide +kernel
theorem d_M_goesOn_115 : decode prog_13_method_35_code 115 = .ok (.goto (-115), 3) := by decide +kernel
theorem d_M_goesOn_118 : decode prog_13_method_35_code 118 = .ok (.aload_n 0, 1) := by decide +kernel
theorem d_M_goesOn_119 : decode prog_13_method_35_code 119 = .ok (.bipush 42, 2) := by decide +kernel
theorem d_M_goesOn_121 : decode prog_13_method_35_code 121 = .ok (.invokevirtual 192, 3) := by decide +kernel
theorem d_M_goesOn_124 : decode prog_13_method_35_code 124 = .ok (.ifCond .ne 12, 3) := by decide +kernel
theorem d_M_goesOn_127 : decode prog_13_method_35_code 127 = .ok (.aload_n 0, 1) := by decide +kernel
theorem d_M_goesOn_128 : decode prog_13_method_35_code 128 = .ok (.bipush 47, 2) := by decide +kernel
theorem d_M_goesOn_130 : decode prog_13_method_35_code 130 = .ok (.invokevirtual 192, 3) := by decide +kernel
theorem d_M_goesOn_133 : decode prog_13_method_35_code 133 = .ok (.ifCond .eq 70, 3) := by decide +kernel
theorem d_M_goesOn_136 : decode prog_13_method_35_code 136 = .ok (.aload_n 0, 1) := by decide +kernel
theorem d_M_goesOn_137 : decode prog_13_method_35_code 137 = .ok (.getfield 7, 3) := by decide +kernel
theorem d_M_goesOn_140 : decode prog_13_method_35_code 140 = .ok (.aload_n 0, 1) := by decide +kernel
theorem d_M_goesOn_141 : decode prog_13_method_35_code 141 = .ok (.getfield 164, 3) := by decide +kernel
theorem d_M_goesOn_144 : decode prog_13_method_35_code 144 = .ok (.iconst 1, 1) := by decide +kernel
theorem d_M_goesOn_145 : decode prog_13_method_35_code 145 = .ok (.isub, 1) := by decide +kernel
theorem d_M_goesOn_146 : decode prog_13_method_35_code 146 = .ok (.iaload, 1) := by decide +kernel
theorem d_M_goesOn_147 : decode prog_13_method_35_code 147 = .ok (.bipush 42, 2) := by decide +kernel
theorem d_M_goesOn_149 : decode prog_13_method_35_code 149 = .ok (.if_icmp .ne 7, 3) := by decide +kernel
theorem d_M_goesOn_152 : decode prog_13_method_35_code 152 = .ok (.iconst 3, 1) := by decide +kernel
theorem d_M_goesOn_153 : decode prog_13_method_35_code 153 = .ok (.goto 4, 3) := by decide +kernel
theorem d_M_goesOn_156 : decode prog_13_method_35_code 156 = .ok (.iconst 4, 1) := by decide +kernel
theorem d_M_goesOn_157 : decode prog_13_method_35_code 157 = .ok (.istore_n 1, 1) := by decide +kernel
theorem d_M_goesOn_158 : decode prog_13_method_35_code 158 = .ok (.aload_n 0, 1) := by decide +kernel
theorem d_M_goesOn_159 : decode prog_13_method_35_code 159 = .ok (.iconst 3, 1) := by decide +kernel
theorem d_M_goesOn_160 : decode prog_13_method_35_code 160 = .ok (.invokevirtual 302, 3) := by decide +kernel
theorem d_M_goesOn_163 : decode prog_13_method_35_code 163 = .ok (.ifCond .ne 11, 3) := by decide +kernel
theorem d_M_goesOn_166 : decode prog_13_method_35_code 166 = .ok (.aload_n 0, 1) := by decide +kernel
theorem d_M_goesOn_167 : decode prog_13_method_35_code 167 = .ok (.iconst 4, 1) := by decide +kernel
theorem d_M_goesOn_168 : decode prog_13_method_35_code 168 = .ok (.invokevirtual 302, 3) := by decide +kernel
theorem d_M_goesOn_171 : decode prog_13_method_35_code 171 = .ok (.ifCond .eq 10, 3) := by decide +kernel
theorem d_M_goesOn_174 : decode prog_13_method_35_code 174 = .ok (.aload_n 0, 1) := by decide +kernel
theorem d_M_goesOn_175 : decode prog_13_method_35_code 175 = .ok (.invokevirtual 290, 3) := by decide +kernel
theorem d_M_goesOn_178 : decode prog_13_method_35_code 178 = .ok (.goto (-20), 3) := by decide +kernel
theorem d_M_goesOn_181 : decode prog_13_method_35_code 181 = .ok (.aload_n 0, 1) := by decide +kernel
theorem d_M_goesOn_182 : decode prog_13_method_35_code 182 = .ok (.getfield 121, 3) := by decide +kernel
theorem d_M_goesOn_185 : decode prog_13_method_35_code 185 = .ok (.aload_n 0, 1) := by decide +kernel
theorem d_M_goesOn_186 : decode prog_13_method_35_code 186 = .ok (.getfield 232, 3) := by decide +kernel
theorem d_M_goesOn_189 : decode prog_13_method_35_code 189 = .ok (.iload_n 1, 1) := by decide +kernel
theorem d_M_goesOn_190 : decode prog_13_method_35_code 190 = .ok (.iastore, 1) := by decide +kernel
theorem d_M_goesOn_191 : decode prog_13_method_35_code 191 = .ok (.aload_n 0, 1) := by decide +kernel
theorem d_M_goesOn_192 : decode prog_13_method_35_code 192 = .ok (.dup, 1) := by decide +kernel
theorem d_M_goesOn_193 : decode prog_13_method_35_code 193 = .ok (.getfield 232, 3) := by decide +kernel
theorem d_M_goesOn_196 : decode prog_13_method_35_code 196 = .ok (.iconst 1, 1) := by decide +kernel
theorem d_M_goesOn_197 : decode prog_13_method_35_code 197 = .ok (.iadd, 1) := by decide +kernel
theorem d_M_goesOn_198 : decode prog_13_method_35_code 198 = .ok (.putfield 232, 3) := by decide +kernel
theorem d_M_goesOn_201 : decode prog_13_method_35_code 201 = .ok (.iconst 1, 1) := by decide +kernel
theorem d_M_goesOn_202 : decode prog_13_method_35_code 202 = .ok (.ireturn, 1) := by decide +kernel
theorem d_M_goesOn_203 : decode prog_13_method_35_code 203 = .ok (.aload_n 0, 1) := by decide +kernel
theorem d_M_goesOn_204 : decode prog_13_method_35_code 204 = .ok (.bipush 43, 2) := by decide +kernel
theorem d_M_goesOn_206 : decode prog_13_method_35_code 206 = .ok (.invokevirtual 192, 3) := by decide +kernel
theorem d_M_goesOn_209 : decode prog_13_method_35_code 209 = .ok (.ifCond .ne 12, 3) := by decide +kernel
theorem d_M_goesOn_212 : decode prog_13_method_35_code 212 = .ok (.aload_n 0, 1) := by decide +kernel
theorem d_M_goesOn_213 : decode prog_13_method_35_code 213 = .ok (.bipush 45, 2) := by decide +kernel
theorem d_M_goesOn_215 : decode prog_13_method_35_code 215 = .ok (.invokevirtual 192, 3) := by decide +kernel
theorem d_M_goesOn_218 : decode prog_13_method_35_code 218 = .ok (.ifCond .eq 86, 3) := by decide +kernel
theorem d_M_goesOn_221 : decode prog_13_method_35_code 221 = .ok (.aload_n 0, 1) := by decide +kernel
theorem d_M_goesOn_222 : decode prog_13_method_35_code 222 = .ok (.getfield 7, 3) := by decide +kernel
theorem d_M_goesOn_225 : decode prog_13_method_35_code 225 = .ok (.aload_n 0, 1) := by decide +kernel
theorem d_M_goesOn_226 : decode prog_13_method_35_code 226 = .ok (.getfield 164, 3) := by decide +kernel
theorem d_M_goesOn_229 : decode prog_13_method_35_code 229 = .ok (.iconst 1, 1) := by decide +kernel
theorem d_M_goesOn_230 : decode prog_13_method_35_code 230 = .ok (.isub, 1) := by decide +kernel
theorem d_M_goesOn_231 : decode prog_13_method_35_code 231 = .ok (.iaload, 1) := by decide +kernel
theorem d_M_goesOn_232 : decode prog_13_method_35_code 232 = .ok (.bipush 43, 2) := by decide +kernel
theorem d_M_goesOn_234 : decode prog_13_method_35_code 234 = .ok (.if_icmp .ne 7, 3) := by decide +kernel
theorem d_M_goesOn_237 : decode prog_13_method_35_code 237 = .ok (.iconst 1, 1) := by decide +kernel
theorem d_M_goesOn_238 : decode prog_13_method_35_code 238 = .ok (.goto 4, 3) := by decide +kernel
theorem d_M_goesOn_241 : decode prog_13_method_35_code 241 = .ok (.iconst 2, 1) := by decide +kernel
theorem d_M_goesOn_242 : decode prog_13_method_35_code 242 = .ok (.istore_n 1, 1) := by decide +kernel
theorem d_M_goesOn_243 : decode prog_13_method_35_code 243 = .ok (.aload_n 0, 1) := by decide +kernel
theorem d_M_goesOn_244 : decode prog_13_method_35_code 244 = .ok (.iconst 3, 1) := by decide +kernel
theorem d_M_goesOn_245 : decode prog_13_method_35_code 245 = .ok (.invokevirtual 302, 3) := by decide +kernel
theorem d_M_goesOn_248 : decode prog_13_method_35_code 248 = .ok (.ifCond .ne 27, 3) := by decide +kernel
theorem d_M_goesOn_251 : decode prog_13_method_35_code 251 = .ok (.aload_n 0, 1) := by decide +kernel
theorem d_M_goesOn_252 : decode prog_13_method_35_code 252 = .ok (.iconst 4, 1) := by decide +kernel
theorem d_M_goesOn_253 : decode prog_13_method_35_code 253 = .ok (.invokevirtual 302, 3) := by decide +kernel
theorem d_M_goesOn_256 : decode prog_13_method_35_code 256 = .ok (.ifCond .ne 19, 3) := by decide +kernel
theorem d_M_goesOn_259 : decode prog_13_method_35_code 259 = .ok (.aload_n 0, 1) := by decide +kernel
theorem d_M_goesOn_260 : decode prog_13_method_35_code 260 = .ok (.iconst 1, 1) := by decide +kernel
theorem d_M_goesOn_261 : decode prog_13_method_35_code 261 = .ok (.invokevirtual 302, 3) := by decide +kernel
theorem d_M_goesOn_264 : decode prog_13_method_35_code 264 = .ok (.ifCond .ne 11, 3) := by decide +kernel
theorem d_M_goesOn_267 : decode prog_13_method_35_code 267 = .ok (.aload_n 0, 1) := by decide +kernel
theorem d_M_goesOn_268 : decode prog_13_method_35_code 268 = .ok (.iconst 2, 1) := by decide +kernel
theorem d_M_goesOn_269 : decode prog_13_method_35_code 269 = .ok (.invokevirtual 302, 3) := by decide +kernel
theorem d_M_goesOn_272 : decode prog_13_method_35_code 272 = .ok (.ifCond .eq 10, 3) := by decide +kernel
theorem d_M_goesOn_275 : decode prog_13_method_35_code 275 = .ok (.aload_n 0, 1) := by decide +kernel
theorem d_M_goesOn_276 : decode prog_13_method_35_code 276 = .ok (.invokevirtual 290, 3) := by decide +kernel
theorem d_M_goesOn_279 : decode prog_13_method_35_code 279 = .ok (.goto (-36), 3) := by decide +kernel
theorem d_M_goesOn_282 : decode prog_13_method_35_code 282 = .ok (.aload_n 0, 1) := by decide +kernel
theorem d_M_goesOn_283 : decode prog_13_method_35_code 283 = .ok (.getfield 121, 3) := by decide +kernel
theorem d_M_goesOn_286 : decode prog_13_method_35_code 286 = .ok (.aload_n 0, 1) := by decide +kernel
theorem d_M_goesOn_287 : decode prog_13_method_35_code 287 = .ok (.getfield 232, 3) := by decide +kernel
theorem d_M_goesOn_290 : decode prog_13_method_35_code 290 = .ok (.iload_n 1, 1) := by decide +kernel
theorem d_M_goesOn_291 : decode prog_13_method_35_code 291 = .ok (.iastore, 1) := by decide +kernel
theorem d_M_goesOn_292 : decode prog_13_method_35_code 292 = .ok (.aload_n 0, 1) := by decide +kernel
theorem d_M_goesOn_293 : decode prog_13_method_35_code 293 = .ok (.dup, 1) := by decide +kernel
theorem d_M_goesOn_294 : decode prog_13_method_35_code 294 = .ok (.getfield 232, 3) := by decide +kernel
theorem d_M_goesOn_297 : decode prog_13_method_35_code 297 = .ok (.iconst 1, 1) := by decide +kernel
theorem d_M_goesOn_298 : decode prog_13_method_35_code 298 = .ok (.iadd, 1) := by decide +kernel
theorem d_M_goesOn_299 : decode prog_13_method_35_code 299 = .ok (.putfield 232, 3) := by decide +kernel
theorem d_M_goesOn_302 : decode prog_13_method_35_code 302 = .ok (.iconst 1, 1) := by decide +kernel
theorem d_M_goesOn_303 : decode prog_13_method_35_code 303 = .ok (.ireturn, 1) := by decide +kernel
theorem d_M_goesOn_304 : decode prog_13_method_35_code 304 = .ok (.aload_n 0, 1) := by decide +kernel
theorem d_M_goesOn_305 : decode prog_13_method_35_code 305 = .ok (.invokevirtual 296, 3) := by decide +kernel
theorem d_M_goesOn_308 : decode prog_13_method_35_code 308 = .ok (.bipush 21, 2) := by decide +kernel
theorem d_M_goesOn_310 : decode prog_13_method_35_code 310 = .ok (.if_icmp .eq 12, 3) := by decide +kernel
theorem d_M_goesOn_313 : decode prog_13_method_35_code 313 = .ok (.aload_n 0, 1) := by decide +kernel
theorem d_M_goesOn_314 : decode prog_13_method_35_code 314 = .ok (.invokevirtual 296, 3) := by decide +kernel
theorem d_M_goesOn_317 : decode prog_13_method_35_code 317 = .ok (.bipush 22, 2) := by decide +kernel
theorem d_M_goesOn_319 : decode prog_13_method_35_code 319 = .ok (.if_icmp .ne 39, 3) := by decide +kernel
theorem d_M_goesOn_322 : decode prog_13_method_35_code 322 = .ok (.aload_n 0, 1) := by decide +kernel
theorem d_M_goesOn_323 : decode prog_13_method_35_code 323 = .ok (.bipush 44, 2) := by decide +kernel
theorem d_M_goesOn_325 : decode prog_13_method_35_code 325 = .ok (.invokevirtual 266, 3) := by decide +kernel
theorem d_M_goesOn_328 : decode prog_13_method_35_code 328 = .ok (.aload_n 0, 1) := by decide +kernel
theorem d_M_goesOn_329 : decode prog_13_method_35_code 329 = .ok (.getfield 158, 3) := by decide +kernel
theorem d_M_goesOn_332 : decode prog_13_method_35_code 332 = .ok (.ifCond .eq 5, 3) := by decide +kernel
theorem d_M_goesOn_335 : decode prog_13_method_35_code 335 = .ok (.iconst 0, 1) := by decide +kernel
theorem d_M_goesOn_336 : decode prog_13_method_35_code 336 = .ok (.ireturn, 1) := by decide +kernel
theorem d_M_goesOn_337 : decode prog_13_method_35_code 337 = .ok (.aload_n 0, 1) := by decide +kernel
theorem d_M_goesOn_338 : decode prog_13_method_35_code 338 = .ok (.invokevirtual 299, 3) := by decide +kernel
theorem d_M_goesOn_341 : decode prog_13_method_35_code 341 = .ok (.aload_n 0, 1) := by decide +kernel
theorem d_M_goesOn_342 : decode prog_13_method_35_code 342 = .ok (.getfield 121, 3) := by decide +kernel
theorem d_M_goesOn_345 : decode prog_13_method_35_code 345 = .ok (.aload_n 0, 1) := by decide +kernel
theorem d_M_goesOn_346 : decode prog_13_method_35_code 346 = .ok (.getfield 232, 3) := by decide +kernel
theorem d_M_goesOn_349 : decode prog_13_method_35_code 349 = .ok (.iconst 1, 1) := by decide +kernel
theorem d_M_goesOn_350 : decode prog_13_method_35_code 350 = .ok (.isub, 1) := by decide +kernel
theorem d_M_goesOn_351 : decode prog_13_method_35_code 351 = .ok (.dup2, 1) := by decide +kernel
theorem d_M_goesOn_352 : decode prog_13_method_35_code 352 = .ok (.iaload, 1) := by decide +kernel
theorem d_M_goesOn_353 : decode prog_13_method_35_code 353 = .ok (.iconst 2, 1) := by decide +kernel
theorem d_M_goesOn_354 : decode prog_13_method_35_code 354 = .ok (.iadd, 1) := by decide +kernel
theorem d_M_goesOn_355 : decode prog_13_method_35_code 355 = .ok (.iastore, 1) := by decide +kernel
theorem d_M_goesOn_356 : decode prog_13_method_35_code 356 = .ok (.iconst 1, 1) := by decide +kernel
theorem d_M_goesOn_357 : decode prog_13_method_35_code 357 = .ok (.ireturn, 1) := by decide +kernel
theorem d_M_goesOn_358 : decode prog_13_method_35_code 358 = .ok (.aload_n 0, 1) := by decide +kernel
theorem d_M_goesOn_359 : decode prog_13_method_35_code 359 = .ok (.invokevirtual 296, 3) := by decide +kernel
theorem d_M_goesOn_362 : decode prog_13_method_35_code 362 = .ok (.iconst (-1), 1) := by decide +kernel
theorem d_M_goesOn_363 : decode prog_13_method_35_code 363 = .ok (.if_icmp .eq 19, 3) := by decide +kernel
theorem d_M_goesOn_366 : decode prog_13_method_35_code 366 = .ok (.aload_n 0, 1) := by decide +kernel
theorem d_M_goesOn_367 : decode prog_13_method_35_code 367 = .ok (.getfield 158, 3) := by decide +kernel
theorem d_M_goesOn_370 : decode prog_13_method_35_code 370 = .ok (.ifCond .ne 12, 3) := by decide +kernel
theorem d_M_goesOn_373 : decode prog_13_method_35_code 373 = .ok (.aload_n 0, 1) := by decide +kernel
theorem d_M_goesOn_374 : decode prog_13_method_35_code 374 = .ok (.iconst 1, 1) := by decide +kernel
theorem d_M_goesOn_375 : decode prog_13_method_35_code 375 = .ok (.aload_n 0, 1) := by decide +kernel
theorem d_M_goesOn_376 : decode prog_13_method_35_code 376 = .ok (.getfield 164, 3) := by decide +kernel
theorem d_M_goesOn_379 : decode prog_13_method_35_code 379 = .ok (.invokevirtual 188, 3) := by decide +kernel
theorem d_M_goesOn_382 : decode prog_13_method_35_code 382 = .ok (.iconst 0, 1) := by decide +kernel
theorem d_M_goesOn_383 : decode prog_13_method_35_code 383 = .ok (.ireturn, 1) := by decide +kernel
theorem d_M_sumsTold_0 : decode prog_13_method_36_code 0 = .ok (.aload_n 0, 1) := by decide +kernel
theorem d_M_sumsTold_1 : decode prog_13_method_36_code 1 = .ok (.getfield 238, 3) := by decide +kernel
theorem d_M_sumsTold_4 : decode prog_13_method_36_code 4 = .ok (.istore_n 1, 1) := by decide +kernel
theorem d_M_sumsTold_5 : decode prog_13_method_36_code 5 = .ok (.aload_n 0, 1) := by decide +kernel
theorem d_M_sumsTold_6 : decode prog_13_method_36_code 6 = .ok (.aload_n 0, 1) := by decide +kernel
theorem d_M_sumsTold_7 : decode prog_13_method_36_code 7 = .ok (.getfield 232, 3) := by decide +kernel
theorem d_M_sumsTold_10 : decode prog_13_method_36_code 10 = .ok (.putfield 238, 3) := by decide +kernel
theorem d_M_sumsTold_13 : decode prog_13_method_36_code 13 = .ok (.iconst 1, 1) := by decide +kernel
theorem d_M_sumsTold_14 : decode prog_13_method_36_code 14 = .ok (.istore_n 2, 1) := by decide +kernel
theorem d_M_sumsTold_15 : decode prog_13_method_36_code 15 = .ok (.iload_n 2, 1) := by decide +kernel
theorem d_M_sumsTold_16 : decode prog_13_method_36_code 16 = .ok (.ifCond .eq 37, 3) := by decide +kernel
theorem d_M_sumsTold_19 : decode prog_13_method_36_code 19 = .ok (.aload_n 0, 1) := by decide +kernel
theorem d_M_sumsTold_20 : decode prog_13_method_36_code 20 = .ok (.getfield 158, 3) := by decide +kernel
theorem d_M_sumsTold_23 : decode prog_13_method_36_code 23 = .ok (.ifCond .ne 30, 3) := by decide +kernel
theorem d_M_sumsTold_26 : decode prog_13_method_36_code 26 = .ok (.aload_n 0, 1) := by decide +kernel
theorem d_M_sumsTold_27 : decode prog_13_method_36_code 27 = .ok (.invokevirtual 305, 3) := by decide +kernel
theorem d_M_sumsTold_30 : decode prog_13_method_36_code 30 = .ok (.aload_n 0, 1) := by decide +kernel
theorem d_M_sumsTold_31 : decode prog_13_method_36_code 31 = .ok (.getfield 158, 3) := by decide +kernel
theorem d_M_sumsTold_34 : decode prog_13_method_36_code 34 = .ok (.ifCond .ne 14, 3) := by decide +kernel
theorem d_M_sumsTold_37 : decode prog_13_method_36_code 37 = .ok (.aload_n 0, 1) := by decide +kernel
theorem d_M_sumsTold_38 : decode prog_13_method_36_code 38 = .ok (.invokevirtual 308, 3) := by decide +kernel
theorem d_M_sumsTold_41 : decode prog_13_method_36_code 41 = .ok (.ifCond .eq 7, 3) := by decide +kernel
theorem d_M_sumsTold_44 : decode prog_13_method_36_code 44 = .ok (.iconst 1, 1) := by decide +kernel
theorem d_M_sumsTold_45 : decode prog_13_method_36_code 45 = .ok (.goto 4, 3) := by decide +kernel
theorem d_M_sumsTold_48 : decode prog_13_method_36_code 48 = .ok (.iconst 0, 1) := by decide +kernel
theorem d_M_sumsTold_49 : decode prog_13_method_36_code 49 = .ok (.istore_n 2, 1) := by decide +kernel
theorem d_M_sumsTold_50 : decode prog_13_method_36_code 50 = .ok (.goto (-35), 3) := by decide +kernel
theorem d_M_sumsTold_53 : decode prog_13_method_36_code 53 = .ok (.aload_n 0, 1) := by decide +kernel
theorem d_M_sumsTold_54 : decode prog_13_method_36_code 54 = .ok (.getfield 158, 3) := by decide +kernel
theorem d_M_sumsTold_57 : decode prog_13_method_36_code 57 = .ok (.ifCond .ne 21, 3) := by decide +kernel
theorem d_M_sumsTold_60 : decode prog_13_method_36_code 60 = .ok (.aload_n 0, 1) := by decide +kernel
theorem d_M_sumsTold_61 : decode prog_13_method_36_code 61 = .ok (.getfield 232, 3) := by decide +kernel
theorem d_M_sumsTold_64 : decode prog_13_method_36_code 64 = .ok (.aload_n 0, 1) := by decide +kernel
theorem d_M_sumsTold_65 : decode prog_13_method_36_code 65 = .ok (.getfield 238, 3) := by decide +kernel
theorem d_M_sumsTold_68 : decode prog_13_method_36_code 68 = .ok (.if_icmp .le 10, 3) := by decide +kernel
theorem d_M_sumsTold_71 : decode prog_13_method_36_code 71 = .ok (.aload_n 0, 1) := by decide +kernel
theorem d_M_sumsTold_72 : decode prog_13_method_36_code 72 = .ok (.invokevirtual 290, 3) := by decide +kernel
theorem d_M_sumsTold_75 : decode prog_13_method_36_code 75 = .ok (.goto (-22), 3) := by decide +kernel
theorem d_M_sumsTold_78 : decode prog_13_method_36_code 78 = .ok (.aload_n 0, 1) := by decide +kernel
theorem d_M_sumsTold_79 : decode prog_13_method_36_code 79 = .ok (.iload_n 1, 1) := by decide +kernel
theorem d_M_sumsTold_80 : decode prog_13_method_36_code 80 = .ok (.putfield 238, 3) := by decide +kernel
theorem d_M_sumsTold_83 : decode prog_13_method_36_code 83 = .ok (.return_, 1) := by decide +kernel
theorem d_M_fact_0 : decode prog_13_method_37_code 0 = .ok (.aload_n 0, 1) := by decide +kernel
theorem d_M_fact_1 : decode prog_13_method_37_code 1 = .ok (.aload_n 0, 1) := by decide +kernel
theorem d_M_fact_2 : decode prog_13_method_37_code 2 = .ok (.getfield 93, 3) := by decide +kernel
theorem d_M_fact_5 : decode prog_13_method_37_code 5 = .ok (.invokevirtual 185, 3) := by decide +kernel
theorem d_M_fact_8 : decode prog_13_method_37_code 8 = .ok (.ifCond .eq 10, 3) := by decide +kernel
theorem d_M_fact_11 : decode prog_13_method_37_code 11 = .ok (.aload_n 0, 1) := by decide +kernel
theorem d_M_fact_12 : decode prog_13_method_37_code 12 = .ok (.bipush 19, 2) := by decide +kernel
theorem d_M_fact_14 : decode prog_13_method_37_code 14 = .ok (.invokevirtual 284, 3) := by decide +kernel
theorem d_M_fact_17 : decode prog_13_method_37_code 17 = .ok (.return_, 1) := by decide +kernel
theorem d_M_fact_18 : decode prog_13_method_37_code 18 = .ok (.aload_n 0, 1) := by decide +kernel
theorem d_M_fact_19 : decode prog_13_method_37_code 19 = .ok (.invokevirtual 311, 3) := by decide +kernel
theorem d_M_fact_22 : decode prog_13_method_37_code 22 = .ok (.aload_n 0, 1) := by decide +kernel
theorem d_M_fact_23 : decode prog_13_method_37_code 23 = .ok (.getfield 158, 3) := by decide +kernel
theorem d_M_fact_26 : decode prog_13_method_37_code 26 = .ok (.ifCond .eq 4, 3) := by decide +kernel
theorem d_M_fact_29 : decode prog_13_method_37_code 29 = .ok (.return_, 1) := by decide +kernel
theorem d_M_fact_30 : decode prog_13_method_37_code 30 = .ok (.aload_n 0, 1) := by decide +kernel
theorem d_M_fact_31 : decode prog_13_method_37_code 31 = .ok (.invokevirtual 170, 3) := by decide +kernel
theorem d_M_fact_34 : decode prog_13_method_37_code 34 = .ok (.istore_n 1, 1) := by decide +kernel
theorem d_M_fact_35 : decode prog_13_method_37_code 35 = .ok (.iload_n 1, 1) := by decide +kernel
theorem d_M_fact_36 : decode prog_13_method_37_code 36 = .ok (.bipush 60, 2) := by decide +kernel
theorem d_M_fact_38 : decode prog_13_method_37_code 38 = .ok (.if_icmp .eq 25, 3) := by decide +kernel
theorem d_M_fact_41 : decode prog_13_method_37_code 41 = .ok (.iload_n 1, 1) := by decide +kernel
theorem d_M_fact_42 : decode prog_13_method_37_code 42 = .ok (.bipush 62, 2) := by decide +kernel
theorem d_M_fact_44 : decode prog_13_method_37_code 44 = .ok (.if_icmp .eq 19, 3) := by decide +kernel
theorem d_M_fact_47 : decode prog_13_method_37_code 47 = .ok (.iload_n 1, 1) := by decide +kernel
theorem d_M_fact_48 : decode prog_13_method_37_code 48 = .ok (.bipush 61, 2) := by decide +kernel
theorem d_M_fact_50 : decode prog_13_method_37_code 50 = .ok (.if_icmp .eq 13, 3) := by decide +kernel
theorem d_M_fact_53 : decode prog_13_method_37_code 53 = .ok (.aload_n 0, 1) := by decide +kernel
theorem d_M_fact_54 : decode prog_13_method_37_code 54 = .ok (.iconst 1, 1) := by decide +kernel
theorem d_M_fact_55 : decode prog_13_method_37_code 55 = .ok (.aload_n 0, 1) := by decide +kernel
theorem d_M_fact_56 : decode prog_13_method_37_code 56 = .ok (.getfield 164, 3) := by decide +kernel
theorem d_M_fact_59 : decode prog_13_method_37_code 59 = .ok (.invokevirtual 188, 3) := by decide +kernel
theorem d_M_fact_62 : decode prog_13_method_37_code 62 = .ok (.return_, 1) := by decide +kernel
theorem d_M_fact_63 : decode prog_13_method_37_code 63 = .ok (.aload_n 0, 1) := by decide +kernel
theorem d_M_fact_64 : decode prog_13_method_37_code 64 = .ok (.dup, 1) := by decide +kernel
theorem d_M_fact_65 : decode prog_13_method_37_code 65 = .ok (.getfield 164, 3) := by decide +kernel
theorem d_M_fact_68 : decode prog_13_method_37_code 68 = .ok (.iconst 1, 1) := by decide +kernel
theorem d_M_fact_69 : decode prog_13_method_37_code 69 = .ok (.iadd, 1) := by decide +kernel
theorem d_M_fact_70 : decode prog_13_method_37_code 70 = .ok (.putfield 164, 3) := by decide +kernel
theorem d_M_fact_73 : decode prog_13_method_37_code 73 = .ok (.aload_n 0, 1) := by decide +kernel
theorem d_M_fact_74 : decode prog_13_method_37_code 74 = .ok (.invokevirtual 311, 3) := by decide +kernel
theorem d_M_fact_77 : decode prog_13_method_37_code 77 = .ok (.aload_n 0, 1) := by decide +kernel
theorem d_M_fact_78 : decode prog_13_method_37_code 78 = .ok (.iload_n 1, 1) := by decide +kernel
theorem d_M_fact_79 : decode prog_13_method_37_code 79 = .ok (.bipush 60, 2) := by decide +kernel
theorem d_M_fact_81 : decode prog_13_method_37_code 81 = .ok (.if_icmp .ne 8, 3) := by decide +kernel
theorem d_M_fact_84 : decode prog_13_method_37_code 84 = .ok (.bipush 13, 2) := by decide +kernel
theorem d_M_fact_86 : decode prog_13_method_37_code 86 = .ok (.goto 16, 3) := by decide +kernel
theorem d_M_fact_89 : decode prog_13_method_37_code 89 = .ok (.iload_n 1, 1) := by decide +kernel
theorem d_M_fact_90 : decode prog_13_method_37_code 90 = .ok (.bipush 62, 2) := by decide +kernel
theorem d_M_fact_92 : decode prog_13_method_37_code 92 = .ok (.if_icmp .ne 8, 3) := by decide +kernel
theorem d_M_fact_95 : decode prog_13_method_37_code 95 = .ok (.bipush 14, 2) := by decide +kernel
theorem d_M_fact_97 : decode prog_13_method_37_code 97 = .ok (.goto 5, 3) := by decide +kernel
theorem d_M_fact_100 : decode prog_13_method_37_code 100 = .ok (.bipush 15, 2) := by decide +kernel
theorem d_M_fact_102 : decode prog_13_method_37_code 102 = .ok (.invokevirtual 284, 3) := by decide +kernel
theorem d_M_fact_105 : decode prog_13_method_37_code 105 = .ok (.return_, 1) := by decide +kernel
theorem d_M_dropsNots_0 : decode prog_13_method_39_code 0 = .ok (.aload_n 0, 1) := by decide +kernel
theorem d_M_dropsNots_1 : decode prog_13_method_39_code 1 = .ok (.getfield 158, 3) := by decide +kernel
theorem d_M_dropsNots_4 : decode prog_13_method_39_code 4 = .ok (.ifCond .ne 29, 3) := by decide +kernel
theorem d_M_dropsNots_7 : decode prog_13_method_39_code 7 = .ok (.aload_n 0, 1) := by decide +kernel
theorem d_M_dropsNots_8 : decode prog_13_method_39_code 8 = .ok (.bipush 18, 2) := by decide +kernel
theorem d_M_dropsNots_10 : decode prog_13_method_39_code 10 = .ok (.invokevirtual 302, 3) := by decide +kernel
theorem d_M_dropsNots_13 : decode prog_13_method_39_code 13 = .ok (.ifCond .eq 20, 3) := by decide +kernel
theorem d_M_dropsNots_16 : decode prog_13_method_39_code 16 = .ok (.aload_n 0, 1) := by decide +kernel
theorem d_M_dropsNots_17 : decode prog_13_method_39_code 17 = .ok (.dup, 1) := by decide +kernel
theorem d_M_dropsNots_18 : decode prog_13_method_39_code 18 = .ok (.getfield 235, 3) := by decide +kernel
theorem d_M_dropsNots_21 : decode prog_13_method_39_code 21 = .ok (.iconst 1, 1) := by decide +kernel
theorem d_M_dropsNots_22 : decode prog_13_method_39_code 22 = .ok (.isub, 1) := by decide +kernel
theorem d_M_dropsNots_23 : decode prog_13_method_39_code 23 = .ok (.putfield 235, 3) := by decide +kernel
theorem d_M_dropsNots_26 : decode prog_13_method_39_code 26 = .ok (.aload_n 0, 1) := by decide +kernel
theorem d_M_dropsNots_27 : decode prog_13_method_39_code 27 = .ok (.invokevirtual 290, 3) := by decide +kernel
theorem d_M_dropsNots_30 : decode prog_13_method_39_code 30 = .ok (.goto (-30), 3) := by decide +kernel
theorem d_M_dropsNots_33 : decode prog_13_method_39_code 33 = .ok (.return_, 1) := by decide +kernel
theorem d_M_hasSquare_0 : decode prog_13_method_38_code 0 = .ok (.iconst 0, 1) := by decide +kernel
theorem d_M_hasSquare_1 : decode prog_13_method_38_code 1 = .ok (.istore_n 1, 1) := by decide +kernel
theorem d_M_hasSquare_2 : decode prog_13_method_38_code 2 = .ok (.iload_n 1, 1) := by decide +kernel
theorem d_M_hasSquare_3 : decode prog_13_method_38_code 3 = .ok (.aload_n 0, 1) := by decide +kernel
theorem d_M_hasSquare_4 : decode prog_13_method_38_code 4 = .ok (.getfield 232, 3) := by decide +kernel
theorem d_M_hasSquare_7 : decode prog_13_method_38_code 7 = .ok (.if_icmp .ge 22, 3) := by decide +kernel
theorem d_M_hasSquare_10 : decode prog_13_method_38_code 10 = .ok (.aload_n 0, 1) := by decide +kernel
theorem d_M_hasSquare_11 : decode prog_13_method_38_code 11 = .ok (.getfield 121, 3) := by decide +kernel
theorem d_M_hasSquare_14 : decode prog_13_method_38_code 14 = .ok (.iload_n 1, 1) := by decide +kernel
theorem d_M_hasSquare_15 : decode prog_13_method_38_code 15 = .ok (.iaload, 1) := by decide +kernel
theorem d_M_hasSquare_16 : decode prog_13_method_38_code 16 = .ok (.bipush 25, 2) := by decide +kernel
theorem d_M_hasSquare_18 : decode prog_13_method_38_code 18 = .ok (.if_icmp .ne 5, 3) := by decide +kernel
theorem d_M_hasSquare_21 : decode prog_13_method_38_code 21 = .ok (.iconst 1, 1) := by decide +kernel
theorem d_M_hasSquare_22 : decode prog_13_method_38_code 22 = .ok (.ireturn, 1) := by decide +kernel
theorem d_M_hasSquare_23 : decode prog_13_method_38_code 23 = .ok (.iinc 1 1, 3) := by decide +kernel
theorem d_M_hasSquare_26 : decode prog_13_method_38_code 26 = .ok (.goto (-24), 3) := by decide +kernel
theorem d_M_hasSquare_29 : decode prog_13_method_38_code 29 = .ok (.iconst 0, 1) := by decide +kernel
theorem d_M_hasSquare_30 : decode prog_13_method_38_code 30 = .ok (.ireturn, 1) := by decide +kernel
theorem d_M_goesOnTest_0 : decode prog_13_method_41_code 0 = .ok (.aload_n 0, 1) := by decide +kernel
theorem d_M_goesOnTest_1 : decode prog_13_method_41_code 1 = .ok (.getfield 158, 3) := by decide +kernel
theorem d_M_goesOnTest_4 : decode prog_13_method_41_code 4 = .ok (.ifCond .ne 72, 3) := by decide +kernel
theorem d_M_goesOnTest_7 : decode prog_13_method_41_code 7 = .ok (.aload_n 0, 1) := by decide +kernel
theorem d_M_goesOnTest_8 : decode prog_13_method_41_code 8 = .ok (.invokevirtual 170, 3) := by decide +kernel
theorem d_M_goesOnTest_11 : decode prog_13_method_41_code 11 = .ok (.bipush 93, 2) := by decide +kernel
theorem d_M_goesOnTest_13 : decode prog_13_method_41_code 13 = .ok (.if_icmp .ne 63, 3) := by decide +kernel
theorem d_M_goesOnTest_16 : decode prog_13_method_41_code 16 = .ok (.aload_n 0, 1) := by decide +kernel
theorem d_M_goesOnTest_17 : decode prog_13_method_41_code 17 = .ok (.invokevirtual 323, 3) := by decide +kernel
theorem d_M_goesOnTest_20 : decode prog_13_method_41_code 20 = .ok (.ifCond .eq 56, 3) := by decide +kernel
theorem d_M_goesOnTest_23 : decode prog_13_method_41_code 23 = .ok (.aload_n 0, 1) := by decide +kernel
theorem d_M_goesOnTest_24 : decode prog_13_method_41_code 24 = .ok (.dup, 1) := by decide +kernel
theorem d_M_goesOnTest_25 : decode prog_13_method_41_code 25 = .ok (.getfield 164, 3) := by decide +kernel
theorem d_M_goesOnTest_28 : decode prog_13_method_41_code 28 = .ok (.iconst 1, 1) := by decide +kernel
theorem d_M_goesOnTest_29 : decode prog_13_method_41_code 29 = .ok (.iadd, 1) := by decide +kernel
theorem d_M_goesOnTest_30 : decode prog_13_method_41_code 30 = .ok (.putfield 164, 3) := by decide +kernel
theorem d_M_goesOnTest_33 : decode prog_13_method_41_code 33 = .ok (.aload_n 0, 1) := by decide +kernel
theorem d_M_goesOnTest_34 : decode prog_13_method_41_code 34 = .ok (.bipush 25, 2) := by decide +kernel
theorem d_M_goesOnTest_36 : decode prog_13_method_41_code 36 = .ok (.invokevirtual 302, 3) := by decide +kernel
theorem d_M_goesOnTest_39 : decode prog_13_method_41_code 39 = .ok (.ifCond .ne 10, 3) := by decide +kernel
theorem d_M_goesOnTest_42 : decode prog_13_method_41_code 42 = .ok (.aload_n 0, 1) := by decide +kernel
theorem d_M_goesOnTest_43 : decode prog_13_method_41_code 43 = .ok (.invokevirtual 290, 3) := by decide +kernel
theorem d_M_goesOnTest_46 : decode prog_13_method_41_code 46 = .ok (.goto (-13), 3) := by decide +kernel
theorem d_M_goesOnTest_49 : decode prog_13_method_41_code 49 = .ok (.aload_n 0, 1) := by decide +kernel
theorem d_M_goesOnTest_50 : decode prog_13_method_41_code 50 = .ok (.dup, 1) := by decide +kernel
theorem d_M_goesOnTest_51 : decode prog_13_method_41_code 51 = .ok (.getfield 232, 3) := by decide +kernel
theorem d_M_goesOnTest_54 : decode prog_13_method_41_code 54 = .ok (.iconst 1, 1) := by decide +kernel
theorem d_M_goesOnTest_55 : decode prog_13_method_41_code 55 = .ok (.isub, 1) := by decide +kernel
theorem d_M_goesOnTest_56 : decode prog_13_method_41_code 56 = .ok (.putfield 232, 3) := by decide +kernel
theorem d_M_goesOnTest_59 : decode prog_13_method_41_code 59 = .ok (.aload_n 0, 1) := by decide +kernel
theorem d_M_goesOnTest_60 : decode prog_13_method_41_code 60 = .ok (.dup, 1) := by decide +kernel
theorem d_M_goesOnTest_61 : decode prog_13_method_41_code 61 = .ok (.getfield 235, 3) := by decide +kernel
theorem d_M_goesOnTest_64 : decode prog_13_method_41_code 64 = .ok (.iconst 1, 1) := by decide +kernel
theorem d_M_goesOnTest_65 : decode prog_13_method_41_code 65 = .ok (.isub, 1) := by decide +kernel
theorem d_M_goesOnTest_66 : decode prog_13_method_41_code 66 = .ok (.putfield 235, 3) := by decide +kernel
theorem d_M_goesOnTest_69 : decode prog_13_method_41_code 69 = .ok (.aload_n 0, 1) := by decide +kernel
theorem d_M_goesOnTest_70 : decode prog_13_method_41_code 70 = .ok (.invokevirtual 317, 3) := by decide +kernel
theorem d_M_goesOnTest_73 : decode prog_13_method_41_code 73 = .ok (.goto (-73), 3) := by decide +kernel
theorem d_M_goesOnTest_76 : decode prog_13_method_41_code 76 = .ok (.aload_n 0, 1) := by decide +kernel
theorem d_M_goesOnTest_77 : decode prog_13_method_41_code 77 = .ok (.aload_n 0, 1) := by decide +kernel
theorem d_M_goesOnTest_78 : decode prog_13_method_41_code 78 = .ok (.getfield 87, 3) := by decide +kernel
theorem d_M_goesOnTest_81 : decode prog_13_method_41_code 81 = .ok (.invokevirtual 185, 3) := by decide +kernel
theorem d_M_goesOnTest_84 : decode prog_13_method_41_code 84 = .ok (.ifCond .eq 42, 3) := by decide +kernel
theorem d_M_goesOnTest_87 : decode prog_13_method_41_code 87 = .ok (.aload_n 0, 1) := by decide +kernel
theorem d_M_goesOnTest_88 : decode prog_13_method_41_code 88 = .ok (.bipush 16, 2) := by decide +kernel
theorem d_M_goesOnTest_90 : decode prog_13_method_41_code 90 = .ok (.invokevirtual 302, 3) := by decide +kernel
theorem d_M_goesOnTest_93 : decode prog_13_method_41_code 93 = .ok (.ifCond .eq 10, 3) := by decide +kernel
theorem d_M_goesOnTest_96 : decode prog_13_method_41_code 96 = .ok (.aload_n 0, 1) := by decide +kernel
theorem d_M_goesOnTest_97 : decode prog_13_method_41_code 97 = .ok (.invokevirtual 290, 3) := by decide +kernel
theorem d_M_goesOnTest_100 : decode prog_13_method_41_code 100 = .ok (.goto (-13), 3) := by decide +kernel
theorem d_M_goesOnTest_103 : decode prog_13_method_41_code 103 = .ok (.aload_n 0, 1) := by decide +kernel
theorem d_M_goesOnTest_104 : decode prog_13_method_41_code 104 = .ok (.getfield 121, 3) := by decide +kernel
theorem d_M_goesOnTest_107 : decode prog_13_method_41_code 107 = .ok (.aload_n 0, 1) := by decide +kernel
theorem d_M_goesOnTest_108 : decode prog_13_method_41_code 108 = .ok (.getfield 232, 3) := by decide +kernel
theorem d_M_goesOnTest_111 : decode prog_13_method_41_code 111 = .ok (.bipush 16, 2) := by decide +kernel
theorem d_M_goesOnTest_113 : decode prog_13_method_41_code 113 = .ok (.iastore, 1) := by decide +kernel
theorem d_M_goesOnTest_114 : decode prog_13_method_41_code 114 = .ok (.aload_n 0, 1) := by decide +kernel
theorem d_M_goesOnTest_115 : decode prog_13_method_41_code 115 = .ok (.dup, 1) := by decide +kernel
theorem d_M_goesOnTest_116 : decode prog_13_method_41_code 116 = .ok (.getfield 232, 3) := by decide +kernel
theorem d_M_goesOnTest_119 : decode prog_13_method_41_code 119 = .ok (.iconst 1, 1) := by decide +kernel
theorem d_M_goesOnTest_120 : decode prog_13_method_41_code 120 = .ok (.iadd, 1) := by decide +kernel
theorem d_M_goesOnTest_121 : decode prog_13_method_41_code 121 = .ok (.putfield 232, 3) := by decide +kernel
theorem d_M_goesOnTest_124 : decode prog_13_method_41_code 124 = .ok (.iconst 1, 1) := by decide +kernel
theorem d_M_goesOnTest_125 : decode prog_13_method_41_code 125 = .ok (.ireturn, 1) := by decide +kernel
theorem d_M_goesOnTest_126 : decode prog_13_method_41_code 126 = .ok (.aload_n 0, 1) := by decide +kernel
theorem d_M_goesOnTest_127 : decode prog_13_method_41_code 127 = .ok (.aload_n 0, 1) := by decide +kernel
theorem d_M_goesOnTest_128 : decode prog_13_method_41_code 128 = .ok (.getfield 84, 3) := by decide +kernel
theorem d_M_goesOnTest_131 : decode prog_13_method_41_code 131 = .ok (.invokevirtual 185, 3) := by decide +kernel
theorem d_M_goesOnTest_134 : decode prog_13_method_41_code 134 = .ok (.ifCond .eq 51, 3) := by decide +kernel
theorem d_M_goesOnTest_137 : decode prog_13_method_41_code 137 = .ok (.aload_n 0, 1) := by decide +kernel
theorem d_M_goesOnTest_138 : decode prog_13_method_41_code 138 = .ok (.bipush 16, 2) := by decide +kernel
theorem d_M_goesOnTest_140 : decode prog_13_method_41_code 140 = .ok (.invokevirtual 302, 3) := by decide +kernel
theorem d_M_goesOnTest_143 : decode prog_13_method_41_code 143 = .ok (.ifCond .ne 12, 3) := by decide +kernel
theorem d_M_goesOnTest_146 : decode prog_13_method_41_code 146 = .ok (.aload_n 0, 1) := by decide +kernel
theorem d_M_goesOnTest_147 : decode prog_13_method_41_code 147 = .ok (.bipush 17, 2) := by decide +kernel
theorem d_M_goesOnTest_149 : decode prog_13_method_41_code 149 = .ok (.invokevirtual 302, 3) := by decide +kernel
theorem d_M_goesOnTest_152 : decode prog_13_method_41_code 152 = .ok (.ifCond .eq 10, 3) := by decide +kernel
theorem d_M_goesOnTest_155 : decode prog_13_method_41_code 155 = .ok (.aload_n 0, 1) := by decide +kernel
theorem d_M_goesOnTest_156 : decode prog_13_method_41_code 156 = .ok (.invokevirtual 290, 3) := by decide +kernel
theorem d_M_goesOnTest_159 : decode prog_13_method_41_code 159 = .ok (.goto (-22), 3) := by decide +kernel
theorem d_M_goesOnTest_162 : decode prog_13_method_41_code 162 = .ok (.aload_n 0, 1) := by decide +kernel
theorem d_M_goesOnTest_163 : decode prog_13_method_41_code 163 = .ok (.getfield 121, 3) := by decide +kernel
theorem d_M_goesOnTest_166 : decode prog_13_method_41_code 166 = .ok (.aload_n 0, 1) := by decide +kernel
theorem d_M_goesOnTest_167 : decode prog_13_method_41_code 167 = .ok (.getfield 232, 3) := by decide +kernel
theorem d_M_goesOnTest_170 : decode prog_13_method_41_code 170 = .ok (.bipush 17, 2) := by decide +kernel
theorem d_M_goesOnTest_172 : decode prog_13_method_41_code 172 = .ok (.iastore, 1) := by decide +kernel
theorem d_M_goesOnTest_173 : decode prog_13_method_41_code 173 = .ok (.aload_n 0, 1) := by decide +kernel
theorem d_M_goesOnTest_174 : decode prog_13_method_41_code 174 = .ok (.dup, 1) := by decide +kernel
theorem d_M_goesOnTest_175 : decode prog_13_method_41_code 175 = .ok (.getfield 232, 3) := by decide +kernel
theorem d_M_goesOnTest_178 : decode prog_13_method_41_code 178 = .ok (.iconst 1, 1) := by decide +kernel
theorem d_M_goesOnTest_179 : decode prog_13_method_41_code 179 = .ok (.iadd, 1) := by decide +kernel
theorem d_M_goesOnTest_180 : decode prog_13_method_41_code 180 = .ok (.putfield 232, 3) := by decide +kernel
theorem d_M_goesOnTest_183 : decode prog_13_method_41_code 183 = .ok (.iconst 1, 1) := by decide +kernel
theorem d_M_goesOnTest_184 : decode prog_13_method_41_code 184 = .ok (.ireturn, 1) := by decide +kernel
theorem d_M_goesOnTest_185 : decode prog_13_method_41_code 185 = .ok (.aload_n 0, 1) := by decide +kernel
theorem d_M_goesOnTest_186 : decode prog_13_method_41_code 186 = .ok (.getfield 158, 3) := by decide +kernel
theorem d_M_goesOnTest_189 : decode prog_13_method_41_code 189 = .ok (.ifCond .ne 19, 3) := by decide +kernel
theorem d_M_goesOnTest_192 : decode prog_13_method_41_code 192 = .ok (.aload_n 0, 1) := by decide +kernel
theorem d_M_goesOnTest_193 : decode prog_13_method_41_code 193 = .ok (.invokevirtual 323, 3) := by decide +kernel
theorem d_M_goesOnTest_196 : decode prog_13_method_41_code 196 = .ok (.ifCond .eq 12, 3) := by decide +kernel
theorem d_M_goesOnTest_199 : decode prog_13_method_41_code 199 = .ok (.aload_n 0, 1) := by decide +kernel
theorem d_M_goesOnTest_200 : decode prog_13_method_41_code 200 = .ok (.iconst 1, 1) := by decide +kernel
theorem d_M_goesOnTest_201 : decode prog_13_method_41_code 201 = .ok (.aload_n 0, 1) := by decide +kernel
theorem d_M_goesOnTest_202 : decode prog_13_method_41_code 202 = .ok (.getfield 164, 3) := by decide +kernel
theorem d_M_goesOnTest_205 : decode prog_13_method_41_code 205 = .ok (.invokevirtual 188, 3) := by decide +kernel
theorem d_M_goesOnTest_208 : decode prog_13_method_41_code 208 = .ok (.iconst 0, 1) := by decide +kernel
theorem d_M_goesOnTest_209 : decode prog_13_method_41_code 209 = .ok (.ireturn, 1) := by decide +kernel
def f_M_onePart_274 (t0 : Int32) (σ : St) : Option (St) :=
  bp (f_M_code t0 σ) fun σ_2 =>
  some σ_2
def f_M_onePart_251 (t0 : Int32) (σ : St) : Option (St) :=
  if t0 = (-1) then
    bd (f_M_number 0 9999 σ) fun r_2 σ_3 =>
    f_M_onePart_274 (1000 + r_2) σ_3
  else
    f_M_onePart_274 t0 σ
def f_M_onePart_146 (σ : St) : Option (St) :=
  if (sI σ 4) = 0 then
    bd (f_M_takes 15 σ) fun r_2 σ_3 =>
    if r_2 = 0 then
      bd (f_M_takes 18 σ_3) fun r_5 σ_6 =>
      if r_5 = 0 then
        bd (f_M_takes 19 σ_6) fun r_8 σ_9 =>
        if r_8 = 0 then
          bd (f_M_takes 8 σ_9) fun r_11 σ_12 =>
          if r_11 = 0 then
            bd (f_M_takes 20 σ_12) fun r_14 σ_15 =>
            if r_14 = 0 then
              bd (f_M_takes 6 σ_15) fun r_17 σ_18 =>
              if r_17 = 0 then
                f_M_onePart_251 (-1) σ_18
              else
                f_M_onePart_251 12 σ_18
            else
              f_M_onePart_251 11 σ_15
          else
            f_M_onePart_251 10 σ_12
        else
          f_M_onePart_251 9 σ_9
      else
        f_M_onePart_251 8 σ_6
    else
      f_M_onePart_251 7 σ_3
  else
    some σ
def f_M_onePart_132 (k2 : Int32 → St → Option (St)) (x1 : Int32) (σ : St) : Option (St) :=
  bp (f_M_asksSign 40 σ) fun σ_2 =>
  k2 x1 σ_2
def f_M_onePart_127 (k2 : Int32 → St → Option (St)) (x1 : Int32) (x4 : Int32) (t0 : Int32) (σ : St) : Option (St) :=
  bp (f_M_opens t0 x4 σ) fun σ_2 =>
  f_M_onePart_132 k2 x1 σ_2
def f_M_onePart_107 (k2 : Int32 → St → Option (St)) (x1 : Int32) (x3 : Int32) (t0 : Int32) (σ : St) : Option (St) :=
  if t0 = (-1) then
    f_M_onePart_132 k2 x1 σ
  else
    if x3 = 0 then
      f_M_onePart_127 k2 x1 t0 22 σ
    else
      f_M_onePart_127 k2 x1 t0 21 σ
def f_M_onePart_90 (k2 : Int32 → St → Option (St)) (x1 : Int32) (x3 : Int32) (σ : St) : Option (St) :=
  bd (f_M_look σ) fun r_2 σ_3 =>
  if r_2 = 40 then
    f_M_onePart_107 k2 x1 x3 (sI σ_3 1) σ_3
  else
    f_M_onePart_107 k2 x1 x3 (-1) σ_3
def f_M_onePart_69 (k2 : Int32 → St → Option (St)) (x1 : Int32) (σ : St) : Option (St) :=
  bd (f_M_takes 25 σ) fun r_2 σ_3 =>
  if r_2 = 0 then
    bp (f_M_asks 26 σ_3) fun σ_5 =>
    f_M_onePart_90 k2 x1 r_2 σ_5
  else
    f_M_onePart_90 k2 x1 r_2 σ_3
def f_M_onePart_2b (k2 : Int32 → St → Option (St)) (x1 : Int32) (σ : St) : Option (St) :=
  if x1 = 0 then
    f_M_onePart_146 σ
  else
    if (sI σ 4) = 0 then
      bd (f_M_look σ) fun r_2 σ_3 =>
      if r_2 = 40 then
        bp (f_M_opens 20 (sI σ_3 1) σ_3) fun σ_11 =>
        lt (uI σ_11 1 ((sI σ_11 1) + 1)) fun σ_12 =>
        k2 x1 σ_12
      else
        bd (f_M_isHere 25 σ_3) fun r_5 σ_6 =>
        if r_5 = 0 then
          bd (f_M_isHere 26 σ_6) fun r_8 σ_9 =>
          if r_8 = 0 then
            k2 0 σ_9
          else
            f_M_onePart_69 k2 x1 σ_9
        else
          f_M_onePart_69 k2 x1 σ_6
    else
      f_M_onePart_146 σ
def f_M_onePart_2 : Nat → Int32 → St → Option (St)
  | 0 => fun _ _ => none
  | n + 1 => f_M_onePart_2b   (f_M_onePart_2   n)
def f_M_onePart (σ : St) : Option (St) :=
  f_M_onePart_2 FU 1 σ
set_option maxHeartbeats 4000000 in
set_option maxRecDepth 20000 in
theorem t_M_onePart_274 {σ2 : St} (C : Cx g A p s m av meth c prog_13_method_34_code 5 "BellHammerModel" none)  {t0 : Int32} {σ : St} {H : Heap} {locs : List Loc} {ls : Array Slot} (hf : f_M_onePart_274   t0 σ = some σ2) (w : Wd g (wM g q) A s σ H locs) (hl : lv_has ls 5 []) : WK p l e s m av below meth c 4 g (wM g q) A none σ2 H locs (F0 m 274 ls [.int t0, .ref (q 0)]) := by
  obtain ⟨hx, hb, hml, hown, hts, hK, hA, hZ, hlocks, hr, hN⟩ := id C
  unfold f_M_onePart_274 at hf
  obtain ⟨σ_2, h_1, hf⟩ := bp_e hf
  refine k_callV (As := [.int t0]) (rest := []) C w (c_M_code (q := q) h_1) cv_M_code k1437 (mr_0 C w) (by decide) hl.1 rfl (Nat.le_of_ble_eq_true rfl) d_M_onePart_274 (fun H locs w => ?_)
  show WK p l e s m av below meth c 4 g (wM g q) A none σ2 H locs (F0 m 277 ls [])
  cases some_e hf
  exact k_vret C w d_M_onePart_277
set_option maxHeartbeats 4000000 in
set_option maxRecDepth 20000 in
theorem t_M_onePart_251 {σ2 : St} (C : Cx g A p s m av meth c prog_13_method_34_code 5 "BellHammerModel" none)  {t0 : Int32} {σ : St} {H : Heap} {locs : List Loc} {ls : Array Slot} (hf : f_M_onePart_251   t0 σ = some σ2) (w : Wd g (wM g q) A s σ H locs) (hl : lv_has ls 5 [(0, .ref (q 0))]) : WK p l e s m av below meth c 4 g (wM g q) A none σ2 H locs (F0 m 251 ls [.int t0]) := by
  obtain ⟨hx, hb, hml, hown, hts, hK, hA, hZ, hlocks, hr, hN⟩ := id C
  unfold f_M_onePart_251 at hf
  refine lv_istore_n (lv' := [(2, .int t0), (0, .ref (q 0))]) hx hb d_M_onePart_251 rfl hl (by decide) rfl (fun ls hl => ?_)
  refine lv_aload_n hx hb d_M_onePart_252 rfl (lv_at hl 1 rfl) ?_
  refine lv_iload_n hx hb d_M_onePart_253 rfl (lv_at hl 0 rfl) ?_
  refine lv_iconst (v := (-1)) hx hb d_M_onePart_254 (by decide) ?_
  refine lv_icmp_eq (tgt := 262) hx hb d_M_onePart_255 (by decide) (fun cd => ?_) (fun cd => ?_)
  · have hf := it_e cd hf
    refine lv_sipush (v := 1000) hx hb d_M_onePart_262 (by decide) ?_
    refine lv_aload_n hx hb d_M_onePart_265 rfl (lv_at hl 1 rfl) ?_
    refine lv_iconst (v := 0) hx hb d_M_onePart_266 (by decide) ?_
    refine lv_sipush (v := 9999) hx hb d_M_onePart_267 (by decide) ?_
    obtain ⟨r_2, σ_3, h_1, hf⟩ := bd_e hf
    refine k_callV (As := [.int 0, .int 9999]) (rest := [.int 1000, .ref (q 0)]) C w (c_M_number (q := q) h_1) cv_M_number k1403 (mr_0 C w) (by decide) hl.1 rfl (Nat.le_of_ble_eq_true rfl) d_M_onePart_270 (fun H locs w => ?_)
    show WK p l e s m av below meth c 4 g (wM g q) A none σ2 H locs (F0 m 273 ls [.int r_2, .int 1000, .ref (q 0)])
    refine lv_iadd hx hb d_M_onePart_273 ?_
    exact t_M_onePart_274 C  hf w (lv_sub hl [] rfl)
  · have hf := if_e cd hf
    refine lv_iload_n hx hb d_M_onePart_258 rfl (lv_at hl 0 rfl) ?_
    refine lv_goto (tgt := 274) hx hb d_M_onePart_259 (by decide) ?_
    exact t_M_onePart_274 C  hf w (lv_sub hl [] rfl)
set_option maxHeartbeats 4000000 in
set_option maxRecDepth 20000 in
theorem t_M_onePart_146 {σ2 : St} (C : Cx g A p s m av meth c prog_13_method_34_code 5 "BellHammerModel" none)  {σ : St} {H : Heap} {locs : List Loc} {ls : Array Slot} (hf : f_M_onePart_146    σ = some σ2) (w : Wd g (wM g q) A s σ H locs) (hl : lv_has ls 5 [(0, .ref (q 0))]) : WK p l e s m av below meth c 4 g (wM g q) A none σ2 H locs (F0 m 146 ls []) := by
  obtain ⟨hx, hb, hml, hown, hts, hK, hA, hZ, hlocks, hr, hN⟩ := id C
  unfold f_M_onePart_146 at hf
  refine lv_aload_n hx hb d_M_onePart_146 rfl (lv_at hl 0 rfl) ?_
  refine mg_0_bad C w k1099 d_M_onePart_147 ?_
  refine lv_if_eq (tgt := 154) hx hb d_M_onePart_150 (by decide) (fun cd => ?_) (fun cd => ?_)
  · have hf := it_e cd hf
    refine lv_aload_n hx hb d_M_onePart_154 rfl (lv_at hl 0 rfl) ?_
    refine lv_aload_n hx hb d_M_onePart_155 rfl (lv_at hl 0 rfl) ?_
    refine mg_0_crowdWord C w k1119 d_M_onePart_156 ?_
    obtain ⟨r_2, σ_3, h_1, hf⟩ := bd_e hf
    refine k_callV (As := [.ref (q (1 + 15))]) (rest := []) C w (c_M_takes (q := q) (j := 15) (by decide) h_1) cv_M_takes k1366 (mr_0 C w) (by decide) hl.1 rfl (Nat.le_of_ble_eq_true rfl) d_M_onePart_159 (fun H locs w => ?_)
    show WK p l e s m av below meth c 4 g (wM g q) A none σ2 H locs (F0 m 162 ls [.int r_2])
    refine lv_if_eq (tgt := 170) hx hb d_M_onePart_162 (by decide) (fun cd => ?_) (fun cd => ?_)
    · have hf := it_e cd hf
      refine lv_aload_n hx hb d_M_onePart_170 rfl (lv_at hl 0 rfl) ?_
      refine lv_aload_n hx hb d_M_onePart_171 rfl (lv_at hl 0 rfl) ?_
      refine mg_0_triedWord C w k1122 d_M_onePart_172 ?_
      obtain ⟨r_5, σ_6, h_4, hf⟩ := bd_e hf
      refine k_callV (As := [.ref (q (1 + 18))]) (rest := []) C w (c_M_takes (q := q) (j := 18) (by decide) h_4) cv_M_takes k1366 (mr_0 C w) (by decide) hl.1 rfl (Nat.le_of_ble_eq_true rfl) d_M_onePart_175 (fun H locs w => ?_)
      show WK p l e s m av below meth c 4 g (wM g q) A none σ2 H locs (F0 m 178 ls [.int r_5])
      refine lv_if_eq (tgt := 186) hx hb d_M_onePart_178 (by decide) (fun cd => ?_) (fun cd => ?_)
      · have hf := it_e cd hf
        refine lv_aload_n hx hb d_M_onePart_186 rfl (lv_at hl 0 rfl) ?_
        refine lv_aload_n hx hb d_M_onePart_187 rfl (lv_at hl 0 rfl) ?_
        refine mg_0_lastWord C w k1123 d_M_onePart_188 ?_
        obtain ⟨r_8, σ_9, h_7, hf⟩ := bd_e hf
        refine k_callV (As := [.ref (q (1 + 19))]) (rest := []) C w (c_M_takes (q := q) (j := 19) (by decide) h_7) cv_M_takes k1366 (mr_0 C w) (by decide) hl.1 rfl (Nat.le_of_ble_eq_true rfl) d_M_onePart_191 (fun H locs w => ?_)
        show WK p l e s m av below meth c 4 g (wM g q) A none σ2 H locs (F0 m 194 ls [.int r_8])
        refine lv_if_eq (tgt := 202) hx hb d_M_onePart_194 (by decide) (fun cd => ?_) (fun cd => ?_)
        · have hf := it_e cd hf
          refine lv_aload_n hx hb d_M_onePart_202 rfl (lv_at hl 0 rfl) ?_
          refine lv_aload_n hx hb d_M_onePart_203 rfl (lv_at hl 0 rfl) ?_
          refine mg_0_ladyWord C w k1112 d_M_onePart_204 ?_
          obtain ⟨r_11, σ_12, h_10, hf⟩ := bd_e hf
          refine k_callV (As := [.ref (q (1 + 8))]) (rest := []) C w (c_M_takes (q := q) (j := 8) (by decide) h_10) cv_M_takes k1366 (mr_0 C w) (by decide) hl.1 rfl (Nat.le_of_ble_eq_true rfl) d_M_onePart_207 (fun H locs w => ?_)
          show WK p l e s m av below meth c 4 g (wM g q) A none σ2 H locs (F0 m 210 ls [.int r_11])
          refine lv_if_eq (tgt := 218) hx hb d_M_onePart_210 (by decide) (fun cd => ?_) (fun cd => ?_)
          · have hf := it_e cd hf
            refine lv_aload_n hx hb d_M_onePart_218 rfl (lv_at hl 0 rfl) ?_
            refine lv_aload_n hx hb d_M_onePart_219 rfl (lv_at hl 0 rfl) ?_
            refine mg_0_ringsWord C w k1124 d_M_onePart_220 ?_
            obtain ⟨r_14, σ_15, h_13, hf⟩ := bd_e hf
            refine k_callV (As := [.ref (q (1 + 20))]) (rest := []) C w (c_M_takes (q := q) (j := 20) (by decide) h_13) cv_M_takes k1366 (mr_0 C w) (by decide) hl.1 rfl (Nat.le_of_ble_eq_true rfl) d_M_onePart_223 (fun H locs w => ?_)
            show WK p l e s m av below meth c 4 g (wM g q) A none σ2 H locs (F0 m 226 ls [.int r_14])
            refine lv_if_eq (tgt := 234) hx hb d_M_onePart_226 (by decide) (fun cd => ?_) (fun cd => ?_)
            · have hf := it_e cd hf
              refine lv_aload_n hx hb d_M_onePart_234 rfl (lv_at hl 0 rfl) ?_
              refine lv_aload_n hx hb d_M_onePart_235 rfl (lv_at hl 0 rfl) ?_
              refine mg_0_coinsWord C w k1110 d_M_onePart_236 ?_
              obtain ⟨r_17, σ_18, h_16, hf⟩ := bd_e hf
              refine k_callV (As := [.ref (q (1 + 6))]) (rest := []) C w (c_M_takes (q := q) (j := 6) (by decide) h_16) cv_M_takes k1366 (mr_0 C w) (by decide) hl.1 rfl (Nat.le_of_ble_eq_true rfl) d_M_onePart_239 (fun H locs w => ?_)
              show WK p l e s m av below meth c 4 g (wM g q) A none σ2 H locs (F0 m 242 ls [.int r_17])
              refine lv_if_eq (tgt := 250) hx hb d_M_onePart_242 (by decide) (fun cd => ?_) (fun cd => ?_)
              · have hf := it_e cd hf
                refine lv_iconst (v := (-1)) hx hb d_M_onePart_250 (by decide) ?_
                exact t_M_onePart_251 C  hf w (lv_sub hl [0] rfl)
              · have hf := if_e cd hf
                refine lv_bipush (v := 12) hx hb d_M_onePart_245 (by decide) ?_
                refine lv_goto (tgt := 251) hx hb d_M_onePart_247 (by decide) ?_
                exact t_M_onePart_251 C  hf w (lv_sub hl [0] rfl)
            · have hf := if_e cd hf
              refine lv_bipush (v := 11) hx hb d_M_onePart_229 (by decide) ?_
              refine lv_goto (tgt := 251) hx hb d_M_onePart_231 (by decide) ?_
              exact t_M_onePart_251 C  hf w (lv_sub hl [0] rfl)
          · have hf := if_e cd hf
            refine lv_bipush (v := 10) hx hb d_M_onePart_213 (by decide) ?_
            refine lv_goto (tgt := 251) hx hb d_M_onePart_215 (by decide) ?_
            exact t_M_onePart_251 C  hf w (lv_sub hl [0] rfl)
        · have hf := if_e cd hf
          refine lv_bipush (v := 9) hx hb d_M_onePart_197 (by decide) ?_
          refine lv_goto (tgt := 251) hx hb d_M_onePart_199 (by decide) ?_
          exact t_M_onePart_251 C  hf w (lv_sub hl [0] rfl)
      · have hf := if_e cd hf
        refine lv_bipush (v := 8) hx hb d_M_onePart_181 (by decide) ?_
        refine lv_goto (tgt := 251) hx hb d_M_onePart_183 (by decide) ?_
        exact t_M_onePart_251 C  hf w (lv_sub hl [0] rfl)
    · have hf := if_e cd hf
      refine lv_bipush (v := 7) hx hb d_M_onePart_165 (by decide) ?_
      refine lv_goto (tgt := 251) hx hb d_M_onePart_167 (by decide) ?_
      exact t_M_onePart_251 C  hf w (lv_sub hl [0] rfl)
  · have hf := if_e cd hf
    cases some_e hf
    exact k_vret C w d_M_onePart_153
set_option maxHeartbeats 4000000 in
set_option maxRecDepth 20000 in
theorem t_M_onePart_132 {σ2 : St} (C : Cx g A p s m av meth c prog_13_method_34_code 5 "BellHammerModel" none) {k2 : Int32 → St → Option (St)} (hk2 : ∀ (x1 : Int32) (σ : St) (H : Heap) (locs : List Loc) (ls : Array Slot), k2 x1 σ = some σ2 → Wd g (wM g q) A s σ H locs → lv_has ls 5 [(0, .ref (q 0)), (1, .int x1)] → WK p l e s m av below meth c 4 g (wM g q) A none σ2 H locs (F0 m 2 ls []))  {x1 : Int32} {σ : St} {H : Heap} {locs : List Loc} {ls : Array Slot} (hf : f_M_onePart_132  k2 x1 σ = some σ2) (w : Wd g (wM g q) A s σ H locs) (hl : lv_has ls 5 [(0, .ref (q 0)), (1, .int x1)]) : WK p l e s m av below meth c 4 g (wM g q) A none σ2 H locs (F0 m 132 ls []) := by
  obtain ⟨hx, hb, hml, hown, hts, hK, hA, hZ, hlocks, hr, hN⟩ := id C
  unfold f_M_onePart_132 at hf
  refine lv_aload_n hx hb d_M_onePart_132 rfl (lv_at hl 0 rfl) ?_
  refine lv_bipush (v := 40) hx hb d_M_onePart_133 (by decide) ?_
  obtain ⟨σ_2, h_1, hf⟩ := bp_e hf
  refine k_callV (As := [.int 40]) (rest := []) C w (c_M_asksSign (q := q) h_1) cv_M_asksSign k1449 (mr_0 C w) (by decide) hl.1 rfl (Nat.le_of_ble_eq_true rfl) d_M_onePart_135 (fun H locs w => ?_)
  show WK p l e s m av below meth c 4 g (wM g q) A none σ2 H locs (F0 m 138 ls [])
  refine lv_goto (tgt := 143) hx hb d_M_onePart_138 (by decide) ?_
  refine lv_goto (tgt := 2) hx hb d_M_onePart_143 (by decide) ?_
  exact hk2 x1 σ_2 _ _ _ hf w (lv_sub hl [0, 1] rfl)
set_option maxHeartbeats 4000000 in
set_option maxRecDepth 20000 in
theorem t_M_onePart_127 {σ2 : St} (C : Cx g A p s m av meth c prog_13_method_34_code 5 "BellHammerModel" none) {k2 : Int32 → St → Option (St)} (hk2 : ∀ (x1 : Int32) (σ : St) (H : Heap) (locs : List Loc) (ls : Array Slot), k2 x1 σ = some σ2 → Wd g (wM g q) A s σ H locs → lv_has ls 5 [(0, .ref (q 0)), (1, .int x1)] → WK p l e s m av below meth c 4 g (wM g q) A none σ2 H locs (F0 m 2 ls []))  {x1 : Int32} {x4 : Int32} {t0 : Int32} {σ : St} {H : Heap} {locs : List Loc} {ls : Array Slot} (hf : f_M_onePart_127  k2 x1 x4 t0 σ = some σ2) (w : Wd g (wM g q) A s σ H locs) (hl : lv_has ls 5 [(0, .ref (q 0)), (1, .int x1), (4, .int x4)]) : WK p l e s m av below meth c 4 g (wM g q) A none σ2 H locs (F0 m 127 ls [.int t0, .ref (q 0)]) := by
  obtain ⟨hx, hb, hml, hown, hts, hK, hA, hZ, hlocks, hr, hN⟩ := id C
  unfold f_M_onePart_127 at hf
  refine lv_iload hx hb d_M_onePart_127 (lv_at hl 2 rfl) ?_
  obtain ⟨σ_2, h_1, hf⟩ := bp_e hf
  refine k_callV (As := [.int t0, .int x4]) (rest := []) C w (c_M_opens (q := q) h_1) cv_M_opens k1429 (mr_0 C w) (by decide) hl.1 rfl (Nat.le_of_ble_eq_true rfl) d_M_onePart_129 (fun H locs w => ?_)
  show WK p l e s m av below meth c 4 g (wM g q) A none σ2 H locs (F0 m 132 ls [])
  exact t_M_onePart_132 C hk2 hf w (lv_sub hl [0, 1] rfl)
set_option maxHeartbeats 4000000 in
set_option maxRecDepth 20000 in
theorem t_M_onePart_107 {σ2 : St} (C : Cx g A p s m av meth c prog_13_method_34_code 5 "BellHammerModel" none) {k2 : Int32 → St → Option (St)} (hk2 : ∀ (x1 : Int32) (σ : St) (H : Heap) (locs : List Loc) (ls : Array Slot), k2 x1 σ = some σ2 → Wd g (wM g q) A s σ H locs → lv_has ls 5 [(0, .ref (q 0)), (1, .int x1)] → WK p l e s m av below meth c 4 g (wM g q) A none σ2 H locs (F0 m 2 ls []))  {x1 : Int32} {x3 : Int32} {t0 : Int32} {σ : St} {H : Heap} {locs : List Loc} {ls : Array Slot} (hf : f_M_onePart_107  k2 x1 x3 t0 σ = some σ2) (w : Wd g (wM g q) A s σ H locs) (hl : lv_has ls 5 [(0, .ref (q 0)), (1, .int x1), (3, .int x3)]) : WK p l e s m av below meth c 4 g (wM g q) A none σ2 H locs (F0 m 107 ls [.int t0]) := by
  obtain ⟨hx, hb, hml, hown, hts, hK, hA, hZ, hlocks, hr, hN⟩ := id C
  unfold f_M_onePart_107 at hf
  refine lv_istore (lv' := [(4, .int t0), (0, .ref (q 0)), (1, .int x1), (3, .int x3)]) hx hb d_M_onePart_107 hl (by decide) rfl (fun ls hl => ?_)
  refine lv_iload hx hb d_M_onePart_109 (lv_at hl 0 rfl) ?_
  refine lv_iconst (v := (-1)) hx hb d_M_onePart_111 (by decide) ?_
  refine lv_icmp_eq (tgt := 132) hx hb d_M_onePart_112 (by decide) (fun cd => ?_) (fun cd => ?_)
  · have hf := it_e cd hf
    exact t_M_onePart_132 C hk2 hf w (lv_sub hl [1, 2] rfl)
  · have hf := if_e cd hf
    refine lv_aload_n hx hb d_M_onePart_115 rfl (lv_at hl 1 rfl) ?_
    refine lv_iload_n hx hb d_M_onePart_116 rfl (lv_at hl 3 rfl) ?_
    refine lv_if_eq (tgt := 125) hx hb d_M_onePart_117 (by decide) (fun cd => ?_) (fun cd => ?_)
    · have hf := it_e cd hf
      refine lv_bipush (v := 22) hx hb d_M_onePart_125 (by decide) ?_
      exact t_M_onePart_127 C hk2 hf w (lv_sub hl [1, 2, 0] rfl)
    · have hf := if_e cd hf
      refine lv_bipush (v := 21) hx hb d_M_onePart_120 (by decide) ?_
      refine lv_goto (tgt := 127) hx hb d_M_onePart_122 (by decide) ?_
      exact t_M_onePart_127 C hk2 hf w (lv_sub hl [1, 2, 0] rfl)
set_option maxHeartbeats 4000000 in
set_option maxRecDepth 20000 in
theorem t_M_onePart_90 {σ2 : St} (C : Cx g A p s m av meth c prog_13_method_34_code 5 "BellHammerModel" none) {k2 : Int32 → St → Option (St)} (hk2 : ∀ (x1 : Int32) (σ : St) (H : Heap) (locs : List Loc) (ls : Array Slot), k2 x1 σ = some σ2 → Wd g (wM g q) A s σ H locs → lv_has ls 5 [(0, .ref (q 0)), (1, .int x1)] → WK p l e s m av below meth c 4 g (wM g q) A none σ2 H locs (F0 m 2 ls []))  {x1 : Int32} {x3 : Int32} {σ : St} {H : Heap} {locs : List Loc} {ls : Array Slot} (hf : f_M_onePart_90  k2 x1 x3 σ = some σ2) (w : Wd g (wM g q) A s σ H locs) (hl : lv_has ls 5 [(0, .ref (q 0)), (1, .int x1), (3, .int x3)]) : WK p l e s m av below meth c 4 g (wM g q) A none σ2 H locs (F0 m 90 ls []) := by
  obtain ⟨hx, hb, hml, hown, hts, hK, hA, hZ, hlocks, hr, hN⟩ := id C
  unfold f_M_onePart_90 at hf
  refine lv_aload_n hx hb d_M_onePart_90 rfl (lv_at hl 0 rfl) ?_
  obtain ⟨r_2, σ_3, h_1, hf⟩ := bd_e hf
  refine k_callV (As := []) (rest := []) C w (c_M_look (q := q) h_1) cv_M_look k1354 (mr_0 C w) (by decide) hl.1 rfl (Nat.le_of_ble_eq_true rfl) d_M_onePart_91 (fun H locs w => ?_)
  show WK p l e s m av below meth c 4 g (wM g q) A none σ2 H locs (F0 m 94 ls [.int r_2])
  refine lv_bipush (v := 40) hx hb d_M_onePart_94 (by decide) ?_
  refine lv_icmp_ne (tgt := 106) hx hb d_M_onePart_96 (by decide) (fun cd => ?_) (fun cd => ?_)
  · have hf := if_e cd hf
    refine lv_iconst (v := (-1)) hx hb d_M_onePart_106 (by decide) ?_
    exact t_M_onePart_107 C hk2 hf w (lv_sub hl [0, 1, 2] rfl)
  · have hf := it_e cd hf
    refine lv_aload_n hx hb d_M_onePart_99 rfl (lv_at hl 0 rfl) ?_
    refine mg_0_at C w k1096 d_M_onePart_100 ?_
    refine lv_goto (tgt := 107) hx hb d_M_onePart_103 (by decide) ?_
    exact t_M_onePart_107 C hk2 hf w (lv_sub hl [0, 1, 2] rfl)
set_option maxHeartbeats 4000000 in
set_option maxRecDepth 20000 in
theorem t_M_onePart_69 {σ2 : St} (C : Cx g A p s m av meth c prog_13_method_34_code 5 "BellHammerModel" none) {k2 : Int32 → St → Option (St)} (hk2 : ∀ (x1 : Int32) (σ : St) (H : Heap) (locs : List Loc) (ls : Array Slot), k2 x1 σ = some σ2 → Wd g (wM g q) A s σ H locs → lv_has ls 5 [(0, .ref (q 0)), (1, .int x1)] → WK p l e s m av below meth c 4 g (wM g q) A none σ2 H locs (F0 m 2 ls []))  {x1 : Int32} {σ : St} {H : Heap} {locs : List Loc} {ls : Array Slot} (hf : f_M_onePart_69  k2 x1 σ = some σ2) (w : Wd g (wM g q) A s σ H locs) (hl : lv_has ls 5 [(0, .ref (q 0)), (1, .int x1)]) : WK p l e s m av below meth c 4 g (wM g q) A none σ2 H locs (F0 m 69 ls []) := by
  obtain ⟨hx, hb, hml, hown, hts, hK, hA, hZ, hlocks, hr, hN⟩ := id C
  unfold f_M_onePart_69 at hf
  refine lv_aload_n hx hb d_M_onePart_69 rfl (lv_at hl 0 rfl) ?_
  refine lv_aload_n hx hb d_M_onePart_70 rfl (lv_at hl 0 rfl) ?_
  refine mg_0_minWord C w k1129 d_M_onePart_71 ?_
  obtain ⟨r_2, σ_3, h_1, hf⟩ := bd_e hf
  refine k_callV (As := [.ref (q (1 + 25))]) (rest := []) C w (c_M_takes (q := q) (j := 25) (by decide) h_1) cv_M_takes k1366 (mr_0 C w) (by decide) hl.1 rfl (Nat.le_of_ble_eq_true rfl) d_M_onePart_74 (fun H locs w => ?_)
  show WK p l e s m av below meth c 4 g (wM g q) A none σ2 H locs (F0 m 77 ls [.int r_2])
  refine lv_istore_n (lv' := [(3, .int r_2), (0, .ref (q 0)), (1, .int x1)]) hx hb d_M_onePart_77 rfl hl (by decide) rfl (fun ls hl => ?_)
  refine lv_iload_n hx hb d_M_onePart_78 rfl (lv_at hl 0 rfl) ?_
  refine lv_if_ne (tgt := 90) hx hb d_M_onePart_79 (by decide) (fun cd => ?_) (fun cd => ?_)
  · have hf := if_e cd hf
    exact t_M_onePart_90 C hk2 hf w (lv_sub hl [1, 2, 0] rfl)
  · have hf := it_e cd hf
    refine lv_aload_n hx hb d_M_onePart_82 rfl (lv_at hl 1 rfl) ?_
    refine lv_aload_n hx hb d_M_onePart_83 rfl (lv_at hl 1 rfl) ?_
    refine mg_0_maxWord C w k1130 d_M_onePart_84 ?_
    obtain ⟨σ_5, h_4, hf⟩ := bp_e hf
    refine k_callV (As := [.ref (q (1 + 26))]) (rest := []) C w (c_M_asks (q := q) (j := 26) (by decide) h_4) cv_M_asks k1399 (mr_0 C w) (by decide) hl.1 rfl (Nat.le_of_ble_eq_true rfl) d_M_onePart_87 (fun H locs w => ?_)
    show WK p l e s m av below meth c 4 g (wM g q) A none σ2 H locs (F0 m 90 ls [])
    exact t_M_onePart_90 C hk2 hf w (lv_sub hl [1, 2, 0] rfl)
set_option maxHeartbeats 4000000 in
set_option maxRecDepth 20000 in
theorem t_M_onePart_2b {σ2 : St} (C : Cx g A p s m av meth c prog_13_method_34_code 5 "BellHammerModel" none) {k2 : Int32 → St → Option (St)} (hk2 : ∀ (x1 : Int32) (σ : St) (H : Heap) (locs : List Loc) (ls : Array Slot), k2 x1 σ = some σ2 → Wd g (wM g q) A s σ H locs → lv_has ls 5 [(0, .ref (q 0)), (1, .int x1)] → WK p l e s m av below meth c 4 g (wM g q) A none σ2 H locs (F0 m 2 ls []))  {x1 : Int32} {σ : St} {H : Heap} {locs : List Loc} {ls : Array Slot} (hf : f_M_onePart_2b  k2 x1 σ = some σ2) (w : Wd g (wM g q) A s σ H locs) (hl : lv_has ls 5 [(0, .ref (q 0)), (1, .int x1)]) : WK p l e s m av below meth c 4 g (wM g q) A none σ2 H locs (F0 m 2 ls []) := by
  obtain ⟨hx, hb, hml, hown, hts, hK, hA, hZ, hlocks, hr, hN⟩ := id C
  unfold f_M_onePart_2b at hf
  refine lv_iload_n hx hb d_M_onePart_2 rfl (lv_at hl 1 rfl) ?_
  refine lv_if_eq (tgt := 146) hx hb d_M_onePart_3 (by decide) (fun cd => ?_) (fun cd => ?_)
  · have hf := it_e cd hf
    exact t_M_onePart_146 C  hf w (lv_sub hl [0] rfl)
  · have hf := if_e cd hf
    refine lv_aload_n hx hb d_M_onePart_6 rfl (lv_at hl 0 rfl) ?_
    refine mg_0_bad C w k1099 d_M_onePart_7 ?_
    refine lv_if_ne (tgt := 146) hx hb d_M_onePart_10 (by decide) (fun cd => ?_) (fun cd => ?_)
    · have hf := if_e cd hf
      exact t_M_onePart_146 C  hf w (lv_sub hl [0] rfl)
    · have hf := it_e cd hf
      refine lv_aload_n hx hb d_M_onePart_13 rfl (lv_at hl 0 rfl) ?_
      obtain ⟨r_2, σ_3, h_1, hf⟩ := bd_e hf
      refine k_callV (As := []) (rest := []) C w (c_M_look (q := q) h_1) cv_M_look k1354 (mr_0 C w) (by decide) hl.1 rfl (Nat.le_of_ble_eq_true rfl) d_M_onePart_14 (fun H locs w => ?_)
      show WK p l e s m av below meth c 4 g (wM g q) A none σ2 H locs (F0 m 17 ls [.int r_2])
      refine lv_istore_n (lv' := [(2, .int r_2), (0, .ref (q 0)), (1, .int x1)]) hx hb d_M_onePart_17 rfl hl (by decide) rfl (fun ls hl => ?_)
      refine lv_iload_n hx hb d_M_onePart_18 rfl (lv_at hl 0 rfl) ?_
      refine lv_bipush (v := 40) hx hb d_M_onePart_19 (by decide) ?_
      refine lv_icmp_ne (tgt := 47) hx hb d_M_onePart_21 (by decide) (fun cd => ?_) (fun cd => ?_)
      · have hf := if_e cd hf
        refine lv_aload_n hx hb d_M_onePart_47 rfl (lv_at hl 1 rfl) ?_
        refine lv_aload_n hx hb d_M_onePart_48 rfl (lv_at hl 1 rfl) ?_
        refine mg_0_minWord C w k1129 d_M_onePart_49 ?_
        obtain ⟨r_5, σ_6, h_4, hf⟩ := bd_e hf
        refine k_callV (As := [.ref (q (1 + 25))]) (rest := []) C w (c_M_isHere (q := q) (j := 25) (by decide) h_4) cv_M_isHere k1370 (mr_0 C w) (by decide) hl.1 rfl (Nat.le_of_ble_eq_true rfl) d_M_onePart_52 (fun H locs w => ?_)
        show WK p l e s m av below meth c 4 g (wM g q) A none σ2 H locs (F0 m 55 ls [.int r_5])
        refine lv_if_ne (tgt := 69) hx hb d_M_onePart_55 (by decide) (fun cd => ?_) (fun cd => ?_)
        · have hf := if_e cd hf
          exact t_M_onePart_69 C hk2 hf w (lv_sub hl [1, 2] rfl)
        · have hf := it_e cd hf
          refine lv_aload_n hx hb d_M_onePart_58 rfl (lv_at hl 1 rfl) ?_
          refine lv_aload_n hx hb d_M_onePart_59 rfl (lv_at hl 1 rfl) ?_
          refine mg_0_maxWord C w k1130 d_M_onePart_60 ?_
          obtain ⟨r_8, σ_9, h_7, hf⟩ := bd_e hf
          refine k_callV (As := [.ref (q (1 + 26))]) (rest := []) C w (c_M_isHere (q := q) (j := 26) (by decide) h_7) cv_M_isHere k1370 (mr_0 C w) (by decide) hl.1 rfl (Nat.le_of_ble_eq_true rfl) d_M_onePart_63 (fun H locs w => ?_)
          show WK p l e s m av below meth c 4 g (wM g q) A none σ2 H locs (F0 m 66 ls [.int r_8])
          refine lv_if_eq (tgt := 141) hx hb d_M_onePart_66 (by decide) (fun cd => ?_) (fun cd => ?_)
          · have hf := it_e cd hf
            refine lv_iconst (v := 0) hx hb d_M_onePart_141 (by decide) ?_
            refine lv_istore_n (lv' := [(1, .int 0), (2, .int r_2), (0, .ref (q 0))]) hx hb d_M_onePart_142 rfl hl (by decide) rfl (fun ls hl => ?_)
            refine lv_goto (tgt := 2) hx hb d_M_onePart_143 (by decide) ?_
            exact hk2 0 σ_9 _ _ _ hf w (lv_sub hl [2, 0] rfl)
          · have hf := if_e cd hf
            exact t_M_onePart_69 C hk2 hf w (lv_sub hl [1, 2] rfl)
      · have hf := it_e cd hf
        refine lv_aload_n hx hb d_M_onePart_24 rfl (lv_at hl 1 rfl) ?_
        refine lv_bipush (v := 20) hx hb d_M_onePart_25 (by decide) ?_
        refine lv_aload_n hx hb d_M_onePart_27 rfl (lv_at hl 1 rfl) ?_
        refine mg_0_at C w k1096 d_M_onePart_28 ?_
        obtain ⟨σ_11, h_10, hf⟩ := bp_e hf
        refine k_callV (As := [.int 20, .int (sI σ_3 1)]) (rest := []) C w (c_M_opens (q := q) h_10) cv_M_opens k1429 (mr_0 C w) (by decide) hl.1 rfl (Nat.le_of_ble_eq_true rfl) d_M_onePart_31 (fun H locs w => ?_)
        show WK p l e s m av below meth c 4 g (wM g q) A none σ2 H locs (F0 m 34 ls [])
        refine lv_aload_n hx hb d_M_onePart_34 rfl (lv_at hl 1 rfl) ?_
        refine lv_dup hx hb d_M_onePart_35 rfl ?_
        refine mg_0_at C w k1096 d_M_onePart_36 ?_
        refine lv_iconst (v := 1) hx hb d_M_onePart_39 (by decide) ?_
        refine lv_iadd hx hb d_M_onePart_40 ?_
        refine mp_0_at C w k1096 d_M_onePart_41 (fun σ_12 H locs eσ_12 w => ?_)
        have hf := lt_e eσ_12 hf
        refine lv_goto (tgt := 143) hx hb d_M_onePart_44 (by decide) ?_
        refine lv_goto (tgt := 2) hx hb d_M_onePart_143 (by decide) ?_
        exact hk2 x1 σ_12 _ _ _ hf w (lv_sub hl [1, 2] rfl)
set_option maxHeartbeats 4000000 in
set_option maxRecDepth 20000 in
theorem t_M_onePart_2 {σ2 : St} (C : Cx g A p s m av meth c prog_13_method_34_code 5 "BellHammerModel" none)  : ∀ (n : Nat) (x1 : Int32) (σ : St) (H : Heap) (locs : List Loc) (ls : Array Slot), f_M_onePart_2   n x1 σ = some σ2 → Wd g (wM g q) A s σ H locs → lv_has ls 5 [(0, .ref (q 0)), (1, .int x1)] → WK p l e s m av below meth c 4 g (wM g q) A none σ2 H locs (F0 m 2 ls []) := by
  intro n
  induction n with
  | zero => intro x1 σ H locs ls hf; exact absurd hf (by intro z; cases z)
  | succ n ih => intro x1 σ H locs ls hf w hl; exact t_M_onePart_2b C  ih hf w hl
set_option maxHeartbeats 4000000 in
set_option maxRecDepth 20000 in
theorem c_M_onePart {l : Launch} {g : GX} {q : Nat → Nat}  {σ : St} {σ2 : St} (hf : f_M_onePart   σ = some σ2) : KK l y_M_onePart prog_13_method_34_code 5 none 4 g (wM g q) σ [.ref (q 0)] none (wM g q) σ2 := by
  refine KK_of (plainFor_of_name (by decide)) (Nat.le_of_ble_eq_true rfl) (fun p e s m below meth c A ls C w hl => ?_)
  have hl : lv_has ls 5 [(0, .ref (q 0))] := hl
  obtain ⟨hx, hb, hml, hown, hts, hK, hA, hZ, hlocks, hr, hN⟩ := id C
  unfold f_M_onePart at hf
  refine lv_iconst (v := 1) hx hb d_M_onePart_0 (by decide) ?_
  refine lv_istore_n (lv' := [(1, .int 1), (0, .ref (q 0))]) hx hb d_M_onePart_1 rfl hl (by decide) rfl (fun ls hl => ?_)
  exact t_M_onePart_2 C  FU 1 σ _ _ _ hf w (lv_sub hl [1, 0] rfl)
def f_M_isOn (x1 : Int32) (σ : St) : Option (Int32) :=
  if (sI σ 11) ≤ 0 then
    some 0
  else
    gd (inB ((sI σ 11) - 1) 1700) <|
    if (sA σ 7 ((sI σ 11) - 1).toNatClampNeg) = x1 then
      some 1
    else
      some 0
set_option maxHeartbeats 4000000 in
set_option maxRecDepth 20000 in
theorem c_M_isOn {l : Launch} {g : GX} {q : Nat → Nat} {x1 : Int32}  {σ : St} {r : Int32} (hf : f_M_isOn  x1 σ = some r) : KK l y_M_isOn prog_13_method_29_code 2 (some .boolean) 0 g (wM g q) σ [.ref (q 0), .int x1] (some (.int r)) (wM g q) σ := by
  refine KK_of (plainFor_of_name (by decide)) (Nat.le_of_ble_eq_true rfl) (fun p e s m below meth c A ls C w hl => ?_)
  have hl : lv_has ls 2 [(0, .ref (q 0)), (1, .int x1)] := hl
  obtain ⟨hx, hb, hml, hown, hts, hK, hA, hZ, hlocks, hr, hN⟩ := id C
  unfold f_M_isOn at hf
  refine lv_aload_n hx hb d_M_isOn_0 rfl (lv_at hl 0 rfl) ?_
  refine mg_0_waits C w k1141 d_M_isOn_1 ?_
  refine lv_if_le (tgt := 26) hx hb d_M_isOn_4 (by decide) (fun cd => ?_) (fun cd => ?_)
  · have hf := it_e cd hf
    refine lv_iconst (v := 0) hx hb d_M_isOn_26 (by decide) ?_
    cases some_e hf
    exact k_zret C w (by decide) d_M_isOn_27
  · have hf := if_e cd hf
    refine lv_aload_n hx hb d_M_isOn_7 rfl (lv_at hl 0 rfl) ?_
    refine mg_0_wait C w k1140 d_M_isOn_8 ?_
    refine lv_aload_n hx hb d_M_isOn_11 rfl (lv_at hl 0 rfl) ?_
    refine mg_0_waits C w k1141 d_M_isOn_12 ?_
    refine lv_iconst (v := 1) hx hb d_M_isOn_15 (by decide) ?_
    refine lv_isub hx hb d_M_isOn_16 ?_
    obtain ⟨g_1, hf⟩ := gd_e hf
    refine ml_36 C w g_1 d_M_isOn_17 ?_
    refine lv_iload_n hx hb d_M_isOn_18 rfl (lv_at hl 1 rfl) ?_
    refine lv_icmp_ne (tgt := 26) hx hb d_M_isOn_19 (by decide) (fun cd => ?_) (fun cd => ?_)
    · have hf := if_e cd hf
      refine lv_iconst (v := 0) hx hb d_M_isOn_26 (by decide) ?_
      cases some_e hf
      exact k_zret C w (by decide) d_M_isOn_27
    · have hf := it_e cd hf
      refine lv_iconst (v := 1) hx hb d_M_isOn_22 (by decide) ?_
      refine lv_goto (tgt := 27) hx hb d_M_isOn_23 (by decide) ?_
      cases some_e hf
      exact k_zret C w (by decide) d_M_isOn_27
def f_M_isMark (x1 : Int32) (σ : St) : Option (Int32) :=
  if x1 < 20 then
    some 0
  else
    if 24 < x1 then
      some 0
    else
      some 1
set_option maxHeartbeats 4000000 in
set_option maxRecDepth 20000 in
theorem c_M_isMark {l : Launch} {g : GX} {q : Nat → Nat} {x1 : Int32}  {σ : St} {r : Int32} (hf : f_M_isMark  x1 σ = some r) : KK l y_M_isMark prog_13_method_31_code 2 (some .boolean) 0 g (wM g q) σ [.ref (q 0), .int x1] (some (.int r)) (wM g q) σ := by
  refine KK_of (plainFor_of_name (by decide)) (Nat.le_of_ble_eq_true rfl) (fun p e s m below meth c A ls C w hl => ?_)
  have hl : lv_has ls 2 [(0, .ref (q 0)), (1, .int x1)] := hl
  obtain ⟨hx, hb, hml, hown, hts, hK, hA, hZ, hlocks, hr, hN⟩ := id C
  unfold f_M_isMark at hf
  refine lv_iload_n hx hb d_M_isMark_0 rfl (lv_at hl 1 rfl) ?_
  refine lv_bipush (v := 20) hx hb d_M_isMark_1 (by decide) ?_
  refine lv_icmp_lt (tgt := 16) hx hb d_M_isMark_3 (by decide) (fun cd => ?_) (fun cd => ?_)
  · have hf := it_e cd hf
    refine lv_iconst (v := 0) hx hb d_M_isMark_16 (by decide) ?_
    cases some_e hf
    exact k_zret C w (by decide) d_M_isMark_17
  · have hf := if_e cd hf
    refine lv_iload_n hx hb d_M_isMark_6 rfl (lv_at hl 1 rfl) ?_
    refine lv_bipush (v := 24) hx hb d_M_isMark_7 (by decide) ?_
    refine lv_icmp_gt (tgt := 16) hx hb d_M_isMark_9 (by decide) (fun cd => ?_) (fun cd => ?_)
    · have hf := it_e cd hf
      refine lv_iconst (v := 0) hx hb d_M_isMark_16 (by decide) ?_
      cases some_e hf
      exact k_zret C w (by decide) d_M_isMark_17
    · have hf := if_e cd hf
      refine lv_iconst (v := 1) hx hb d_M_isMark_12 (by decide) ?_
      refine lv_goto (tgt := 17) hx hb d_M_isMark_13 (by decide) ?_
      cases some_e hf
      exact k_zret C w (by decide) d_M_isMark_17
def f_M_waitsLast_34 (x1 : Int32) (σ : St) : Option (Int32) :=
  if x1 < (sI σ 13) then
    some (-1)
  else
    gd (inB x1 1700) <|
    some (sA σ 7 x1.toNatClampNeg)
def f_M_waitsLast_7b (k7 : Int32 → St → Option (Int32)) (x1 : Int32) (σ : St) : Option (Int32) :=
  if x1 < (sI σ 13) then
    f_M_waitsLast_34 x1 σ
  else
    gd (inB x1 1700) <|
    bp (f_M_isMark (sA σ 7 x1.toNatClampNeg) σ) fun r_3 =>
    if r_3 = 0 then
      lt ((x1 + (-1))) fun x_4 =>
      k7 x_4 σ
    else
      f_M_waitsLast_34 x1 σ
def f_M_waitsLast_7 : Nat → Int32 → St → Option (Int32)
  | 0 => fun _ _ => none
  | n + 1 => f_M_waitsLast_7b   (f_M_waitsLast_7   n)
def f_M_waitsLast (σ : St) : Option (Int32) :=
  lt (((sI σ 11) - 1)) fun x_1 =>
  f_M_waitsLast_7 FU x_1 σ
set_option maxHeartbeats 4000000 in
set_option maxRecDepth 20000 in
theorem t_M_waitsLast_34 {r : Int32} {σ : St} (C : Cx g A p s m av meth c prog_13_method_32_code 2 "BellHammerModel" (some .int))  {x1 : Int32} {H : Heap} {locs : List Loc} {ls : Array Slot} (hf : f_M_waitsLast_34   x1 σ = some r) (w : Wd g (wM g q) A s σ H locs) (hl : lv_has ls 2 [(0, .ref (q 0)), (1, .int x1)]) : WK p l e s m av below meth c 1 g (wM g q) A (some (.int r)) σ H locs (F0 m 34 ls []) := by
  obtain ⟨hx, hb, hml, hown, hts, hK, hA, hZ, hlocks, hr, hN⟩ := id C
  unfold f_M_waitsLast_34 at hf
  refine lv_iload_n hx hb d_M_waitsLast_34 rfl (lv_at hl 1 rfl) ?_
  refine lv_aload_n hx hb d_M_waitsLast_35 rfl (lv_at hl 0 rfl) ?_
  refine mg_0_base C w k1145 d_M_waitsLast_36 ?_
  refine lv_icmp_lt (tgt := 51) hx hb d_M_waitsLast_39 (by decide) (fun cd => ?_) (fun cd => ?_)
  · have hf := it_e cd hf
    refine lv_iconst (v := (-1)) hx hb d_M_waitsLast_51 (by decide) ?_
    cases some_e hf
    exact k_iret C w d_M_waitsLast_52
  · have hf := if_e cd hf
    refine lv_aload_n hx hb d_M_waitsLast_42 rfl (lv_at hl 0 rfl) ?_
    refine mg_0_wait C w k1140 d_M_waitsLast_43 ?_
    refine lv_iload_n hx hb d_M_waitsLast_46 rfl (lv_at hl 1 rfl) ?_
    obtain ⟨g_1, hf⟩ := gd_e hf
    refine ml_36 C w g_1 d_M_waitsLast_47 ?_
    refine lv_goto (tgt := 52) hx hb d_M_waitsLast_48 (by decide) ?_
    cases some_e hf
    exact k_iret C w d_M_waitsLast_52
set_option maxHeartbeats 4000000 in
set_option maxRecDepth 20000 in
theorem t_M_waitsLast_7b {r : Int32} {σ : St} (C : Cx g A p s m av meth c prog_13_method_32_code 2 "BellHammerModel" (some .int)) {k7 : Int32 → St → Option (Int32)} (hk7 : ∀ (x1 : Int32) (H : Heap) (locs : List Loc) (ls : Array Slot), k7 x1 σ = some r → Wd g (wM g q) A s σ H locs → lv_has ls 2 [(0, .ref (q 0)), (1, .int x1)] → WK p l e s m av below meth c 1 g (wM g q) A (some (.int r)) σ H locs (F0 m 7 ls []))  {x1 : Int32} {H : Heap} {locs : List Loc} {ls : Array Slot} (hf : f_M_waitsLast_7b  k7 x1 σ = some r) (w : Wd g (wM g q) A s σ H locs) (hl : lv_has ls 2 [(0, .ref (q 0)), (1, .int x1)]) : WK p l e s m av below meth c 1 g (wM g q) A (some (.int r)) σ H locs (F0 m 7 ls []) := by
  obtain ⟨hx, hb, hml, hown, hts, hK, hA, hZ, hlocks, hr, hN⟩ := id C
  unfold f_M_waitsLast_7b at hf
  refine lv_iload_n hx hb d_M_waitsLast_7 rfl (lv_at hl 1 rfl) ?_
  refine lv_aload_n hx hb d_M_waitsLast_8 rfl (lv_at hl 0 rfl) ?_
  refine mg_0_base C w k1145 d_M_waitsLast_9 ?_
  refine lv_icmp_lt (tgt := 34) hx hb d_M_waitsLast_12 (by decide) (fun cd => ?_) (fun cd => ?_)
  · have hf := it_e cd hf
    exact t_M_waitsLast_34 C  hf w (lv_sub hl [0, 1] rfl)
  · have hf := if_e cd hf
    refine lv_aload_n hx hb d_M_waitsLast_15 rfl (lv_at hl 0 rfl) ?_
    refine lv_aload_n hx hb d_M_waitsLast_16 rfl (lv_at hl 0 rfl) ?_
    refine mg_0_wait C w k1140 d_M_waitsLast_17 ?_
    refine lv_iload_n hx hb d_M_waitsLast_20 rfl (lv_at hl 1 rfl) ?_
    obtain ⟨g_1, hf⟩ := gd_e hf
    refine ml_36 C w g_1 d_M_waitsLast_21 ?_
    obtain ⟨r_3, h_2, hf⟩ := bp_e hf
    refine k_callV (As := [.int (sA σ 7 x1.toNatClampNeg)]) (rest := []) C w (c_M_isMark (q := q) h_2) cv_M_isMark k1465 (mr_0 C w) (by decide) hl.1 rfl (Nat.le_of_ble_eq_true rfl) d_M_waitsLast_22 (fun H locs w => ?_)
    show WK p l e s m av below meth c 1 g (wM g q) A (some (.int r)) σ H locs (F0 m 25 ls [.int r_3])
    refine lv_if_ne (tgt := 34) hx hb d_M_waitsLast_25 (by decide) (fun cd => ?_) (fun cd => ?_)
    · have hf := if_e cd hf
      exact t_M_waitsLast_34 C  hf w (lv_sub hl [0, 1] rfl)
    · have hf := it_e cd hf
      obtain ⟨x_4, ex_4⟩ : ∃ y : Int32, y = (x1 + (-1)) := ⟨_, rfl⟩
      have hf := lt_e ex_4 hf
      refine lv_iinc (v := x_4) (lv' := [(1, .int x_4), (0, .ref (q 0))]) hx hb d_M_waitsLast_28 hl (k := 1) rfl (by rw [ex_4]; rfl) (by decide) rfl (fun ls hl => ?_)
      refine lv_goto (tgt := 7) hx hb d_M_waitsLast_31 (by decide) ?_
      exact hk7 x_4  _ _ _ hf w (lv_sub hl [1, 0] rfl)
set_option maxHeartbeats 4000000 in
set_option maxRecDepth 20000 in
theorem t_M_waitsLast_7 {r : Int32} {σ : St} (C : Cx g A p s m av meth c prog_13_method_32_code 2 "BellHammerModel" (some .int))  : ∀ (n : Nat) (x1 : Int32) (H : Heap) (locs : List Loc) (ls : Array Slot), f_M_waitsLast_7   n x1 σ = some r → Wd g (wM g q) A s σ H locs → lv_has ls 2 [(0, .ref (q 0)), (1, .int x1)] → WK p l e s m av below meth c 1 g (wM g q) A (some (.int r)) σ H locs (F0 m 7 ls []) := by
  intro n
  induction n with
  | zero => intro x1 H locs ls hf; exact absurd hf (by intro z; cases z)
  | succ n ih => intro x1 H locs ls hf w hl; exact t_M_waitsLast_7b C  ih hf w hl
set_option maxHeartbeats 4000000 in
set_option maxRecDepth 20000 in
theorem c_M_waitsLast {l : Launch} {g : GX} {q : Nat → Nat}  {σ : St} {r : Int32} (hf : f_M_waitsLast   σ = some r) : KK l y_M_waitsLast prog_13_method_32_code 2 (some .int) 1 g (wM g q) σ [.ref (q 0)] (some (.int r)) (wM g q) σ := by
  refine KK_of (plainFor_of_name (by decide)) (Nat.le_of_ble_eq_true rfl) (fun p e s m below meth c A ls C w hl => ?_)
  have hl : lv_has ls 2 [(0, .ref (q 0))] := hl
  obtain ⟨hx, hb, hml, hown, hts, hK, hA, hZ, hlocks, hr, hN⟩ := id C
  unfold f_M_waitsLast at hf
  refine lv_aload_n hx hb d_M_waitsLast_0 rfl (lv_at hl 0 rfl) ?_
  refine mg_0_waits C w k1141 d_M_waitsLast_1 ?_
  refine lv_iconst (v := 1) hx hb d_M_waitsLast_4 (by decide) ?_
  refine lv_isub hx hb d_M_waitsLast_5 ?_
  refine lv_topi (fun x_1 ex_1 => ?_)
  have hf := lt_e ex_1 hf
  refine lv_istore_n (lv' := [(1, .int x_1), (0, .ref (q 0))]) hx hb d_M_waitsLast_6 rfl hl (by decide) rfl (fun ls hl => ?_)
  exact t_M_waitsLast_7 C  FU x_1  _ _ _ hf w (lv_sub hl [1, 0] rfl)
def f_M_dropsToMark_0b (k0 : St → Option (St)) (σ : St) : Option (St) :=
  if (sI σ 11) ≤ (sI σ 13) then
    some σ
  else
    gd (inB ((sI σ 11) - 1) 1700) <|
    bp (f_M_isMark (sA σ 7 ((sI σ 11) - 1).toNatClampNeg) σ) fun r_3 =>
    if r_3 = 0 then
      bp (f_M_drops σ) fun σ_5 =>
      k0 σ_5
    else
      some σ
def f_M_dropsToMark_0 : Nat → St → Option (St)
  | 0 => fun  _ => none
  | n + 1 => f_M_dropsToMark_0b   (f_M_dropsToMark_0   n)
def f_M_dropsToMark (σ : St) : Option (St) :=
  f_M_dropsToMark_0 FU σ
set_option maxHeartbeats 4000000 in
set_option maxRecDepth 20000 in
theorem t_M_dropsToMark_0b {σ2 : St} (C : Cx g A p s m av meth c prog_13_method_33_code 1 "BellHammerModel" none) {k0 : St → Option (St)} (hk0 : ∀  (σ : St) (H : Heap) (locs : List Loc) (ls : Array Slot), k0  σ = some σ2 → Wd g (wM g q) A s σ H locs → lv_has ls 1 [(0, .ref (q 0))] → WK p l e s m av below meth c 2 g (wM g q) A none σ2 H locs (F0 m 0 ls []))  {σ : St} {H : Heap} {locs : List Loc} {ls : Array Slot} (hf : f_M_dropsToMark_0b  k0  σ = some σ2) (w : Wd g (wM g q) A s σ H locs) (hl : lv_has ls 1 [(0, .ref (q 0))]) : WK p l e s m av below meth c 2 g (wM g q) A none σ2 H locs (F0 m 0 ls []) := by
  obtain ⟨hx, hb, hml, hown, hts, hK, hA, hZ, hlocks, hr, hN⟩ := id C
  unfold f_M_dropsToMark_0b at hf
  refine lv_aload_n hx hb d_M_dropsToMark_0 rfl (lv_at hl 0 rfl) ?_
  refine mg_0_waits C w k1141 d_M_dropsToMark_1 ?_
  refine lv_aload_n hx hb d_M_dropsToMark_4 rfl (lv_at hl 0 rfl) ?_
  refine mg_0_base C w k1145 d_M_dropsToMark_5 ?_
  refine lv_icmp_le (tgt := 36) hx hb d_M_dropsToMark_8 (by decide) (fun cd => ?_) (fun cd => ?_)
  · have hf := it_e cd hf
    cases some_e hf
    exact k_vret C w d_M_dropsToMark_36
  · have hf := if_e cd hf
    refine lv_aload_n hx hb d_M_dropsToMark_11 rfl (lv_at hl 0 rfl) ?_
    refine lv_aload_n hx hb d_M_dropsToMark_12 rfl (lv_at hl 0 rfl) ?_
    refine mg_0_wait C w k1140 d_M_dropsToMark_13 ?_
    refine lv_aload_n hx hb d_M_dropsToMark_16 rfl (lv_at hl 0 rfl) ?_
    refine mg_0_waits C w k1141 d_M_dropsToMark_17 ?_
    refine lv_iconst (v := 1) hx hb d_M_dropsToMark_20 (by decide) ?_
    refine lv_isub hx hb d_M_dropsToMark_21 ?_
    obtain ⟨g_1, hf⟩ := gd_e hf
    refine ml_36 C w g_1 d_M_dropsToMark_22 ?_
    obtain ⟨r_3, h_2, hf⟩ := bp_e hf
    refine k_callV (As := [.int (sA σ 7 ((sI σ 11) - 1).toNatClampNeg)]) (rest := []) C w (c_M_isMark (q := q) h_2) cv_M_isMark k1465 (mr_0 C w) (by decide) hl.1 rfl (Nat.le_of_ble_eq_true rfl) d_M_dropsToMark_23 (fun H locs w => ?_)
    show WK p l e s m av below meth c 2 g (wM g q) A none σ2 H locs (F0 m 26 ls [.int r_3])
    refine lv_if_ne (tgt := 36) hx hb d_M_dropsToMark_26 (by decide) (fun cd => ?_) (fun cd => ?_)
    · have hf := if_e cd hf
      cases some_e hf
      exact k_vret C w d_M_dropsToMark_36
    · have hf := it_e cd hf
      refine lv_aload_n hx hb d_M_dropsToMark_29 rfl (lv_at hl 0 rfl) ?_
      obtain ⟨σ_5, h_4, hf⟩ := bp_e hf
      refine k_callV (As := []) (rest := []) C w (c_M_drops (q := q) h_4) cv_M_drops k1473 (mr_0 C w) (by decide) hl.1 rfl (Nat.le_of_ble_eq_true rfl) d_M_dropsToMark_30 (fun H locs w => ?_)
      show WK p l e s m av below meth c 2 g (wM g q) A none σ2 H locs (F0 m 33 ls [])
      refine lv_goto (tgt := 0) hx hb d_M_dropsToMark_33 (by decide) ?_
      exact hk0  σ_5 _ _ _ hf w (lv_sub hl [0] rfl)
set_option maxHeartbeats 4000000 in
set_option maxRecDepth 20000 in
theorem t_M_dropsToMark_0 {σ2 : St} (C : Cx g A p s m av meth c prog_13_method_33_code 1 "BellHammerModel" none)  : ∀ (n : Nat)  (σ : St) (H : Heap) (locs : List Loc) (ls : Array Slot), f_M_dropsToMark_0   n  σ = some σ2 → Wd g (wM g q) A s σ H locs → lv_has ls 1 [(0, .ref (q 0))] → WK p l e s m av below meth c 2 g (wM g q) A none σ2 H locs (F0 m 0 ls []) := by
  intro n
  induction n with
  | zero => intro  σ H locs ls hf; exact absurd hf (by intro z; cases z)
  | succ n ih => intro  σ H locs ls hf w hl; exact t_M_dropsToMark_0b C  ih hf w hl
set_option maxHeartbeats 4000000 in
set_option maxRecDepth 20000 in
theorem c_M_dropsToMark {l : Launch} {g : GX} {q : Nat → Nat}  {σ : St} {σ2 : St} (hf : f_M_dropsToMark   σ = some σ2) : KK l y_M_dropsToMark prog_13_method_33_code 1 none 2 g (wM g q) σ [.ref (q 0)] none (wM g q) σ2 := by
  refine KK_of (plainFor_of_name (by decide)) (Nat.le_of_ble_eq_true rfl) (fun p e s m below meth c A ls C w hl => ?_)
  have hl : lv_has ls 1 [(0, .ref (q 0))] := hl
  obtain ⟨hx, hb, hml, hown, hts, hK, hA, hZ, hlocks, hr, hN⟩ := id C
  unfold f_M_dropsToMark at hf
  exact t_M_dropsToMark_0 C  FU  σ _ _ _ hf w (lv_sub hl [0] rfl)
def f_M_goesOn_322 (σ : St) : Option (Int32 × St) :=
  bp (f_M_asksSign 44 σ) fun σ_2 =>
  if (sI σ_2 4) = 0 then
    bp (f_M_dropsToMark σ_2) fun σ_4 =>
    lt (((sI σ_4 11) - 1)) fun x_5 =>
    gd (inB x_5 1700) <|
    gd (inB x_5 1700) <|
    lt (uA σ_4 7 (upd (sA σ_4 7) x_5.toNatClampNeg ((sA σ_4 7 x_5.toNatClampNeg) + 2))) fun σ_8 =>
    some (1, σ_8)
  else
    some (0, σ_2)
def f_M_goesOn_275 (k243 : Int32 → St → Option (Int32 × St)) (x1 : Int32) (σ : St) : Option (Int32 × St) :=
  bp (f_M_drops σ) fun σ_2 =>
  k243 x1 σ_2
def f_M_goesOn_243b (k243 : Int32 → St → Option (Int32 × St)) (x1 : Int32) (σ : St) : Option (Int32 × St) :=
  bp (f_M_isOn 3 σ) fun r_2 =>
  if r_2 = 0 then
    bp (f_M_isOn 4 σ) fun r_4 =>
    if r_4 = 0 then
      bp (f_M_isOn 1 σ) fun r_6 =>
      if r_6 = 0 then
        bp (f_M_isOn 2 σ) fun r_8 =>
        if r_8 = 0 then
          gd (inB (sI σ 11) 1700) <|
          lt (uA σ 7 (upd (sA σ 7) (sI σ 11).toNatClampNeg x1)) fun σ_10 =>
          lt (uI σ_10 11 ((sI σ_10 11) + 1)) fun σ_11 =>
          some (1, σ_11)
        else
          f_M_goesOn_275 k243 x1 σ
      else
        f_M_goesOn_275 k243 x1 σ
    else
      f_M_goesOn_275 k243 x1 σ
  else
    f_M_goesOn_275 k243 x1 σ
def f_M_goesOn_243 : Nat → Int32 → St → Option (Int32 × St)
  | 0 => fun _ _ => none
  | n + 1 => f_M_goesOn_243b   (f_M_goesOn_243   n)
def f_M_goesOn_221 (σ : St) : Option (Int32 × St) :=
  gd (inB ((sI σ 1) - 1) 1600) <|
  if (sA σ 0 ((sI σ 1) - 1).toNatClampNeg) = 43 then
    f_M_goesOn_243 FU 1 σ
  else
    f_M_goesOn_243 FU 2 σ
def f_M_goesOn_174 (k158 : Int32 → St → Option (Int32 × St)) (x1 : Int32) (σ : St) : Option (Int32 × St) :=
  bp (f_M_drops σ) fun σ_2 =>
  k158 x1 σ_2
def f_M_goesOn_158b (k158 : Int32 → St → Option (Int32 × St)) (x1 : Int32) (σ : St) : Option (Int32 × St) :=
  bp (f_M_isOn 3 σ) fun r_2 =>
  if r_2 = 0 then
    bp (f_M_isOn 4 σ) fun r_4 =>
    if r_4 = 0 then
      gd (inB (sI σ 11) 1700) <|
      lt (uA σ 7 (upd (sA σ 7) (sI σ 11).toNatClampNeg x1)) fun σ_6 =>
      lt (uI σ_6 11 ((sI σ_6 11) + 1)) fun σ_7 =>
      some (1, σ_7)
    else
      f_M_goesOn_174 k158 x1 σ
  else
    f_M_goesOn_174 k158 x1 σ
def f_M_goesOn_158 : Nat → Int32 → St → Option (Int32 × St)
  | 0 => fun _ _ => none
  | n + 1 => f_M_goesOn_158b   (f_M_goesOn_158   n)
def f_M_goesOn_136 (σ : St) : Option (Int32 × St) :=
  gd (inB ((sI σ 1) - 1) 1600) <|
  if (sA σ 0 ((sI σ 1) - 1).toNatClampNeg) = 42 then
    f_M_goesOn_158 FU 3 σ
  else
    f_M_goesOn_158 FU 4 σ
def f_M_goesOn_118 (σ : St) : Option (Int32 × St) :=
  bd (f_M_takesSign 42 σ) fun r_2 σ_3 =>
  if r_2 = 0 then
    bd (f_M_takesSign 47 σ_3) fun r_5 σ_6 =>
    if r_5 = 0 then
      bd (f_M_takesSign 43 σ_6) fun r_8 σ_9 =>
      if r_8 = 0 then
        bd (f_M_takesSign 45 σ_9) fun r_11 σ_12 =>
        if r_11 = 0 then
          bp (f_M_waitsLast σ_12) fun r_14 =>
          if r_14 = 21 then
            f_M_goesOn_322 σ_12
          else
            bp (f_M_waitsLast σ_12) fun r_16 =>
            if r_16 = 22 then
              f_M_goesOn_322 σ_12
            else
              bp (f_M_waitsLast σ_12) fun r_18 =>
              if r_18 = (-1) then
                some (0, σ_12)
              else
                if (sI σ_12 4) = 0 then
                  bp (f_M_fail 1 (sI σ_12 1) σ_12) fun σ_20 =>
                  some (0, σ_20)
                else
                  some (0, σ_12)
        else
          f_M_goesOn_221 σ_12
      else
        f_M_goesOn_221 σ_9
    else
      f_M_goesOn_136 σ_6
  else
    f_M_goesOn_136 σ_3
def f_M_goesOn_112 (k0 : St → Option (Int32 × St)) (t0 : Int32) (σ : St) : Option (Int32 × St) :=
  bp (f_M_code t0 σ) fun σ_2 =>
  k0 σ_2
def f_M_goesOn_43 (k0 : St → Option (Int32 × St)) (σ : St) : Option (Int32 × St) :=
  lt (uI σ 1 ((sI σ 1) + 1)) fun σ_1 =>
  bp (f_M_dropsToMark σ_1) fun σ_3 =>
  lt (uI σ_3 11 ((sI σ_3 11) - 1)) fun σ_4 =>
  lt (uI σ_4 12 ((sI σ_4 12) - 1)) fun σ_5 =>
  gd (inB (sI σ_5 11) 1700) <|
  if (sA σ_5 7 (sI σ_5 11).toNatClampNeg) = 20 then
    k0 σ_5
  else
    gd (inB (sI σ_5 11) 1700) <|
    if (sA σ_5 7 (sI σ_5 11).toNatClampNeg) = 23 then
      f_M_goesOn_112 k0 5 σ_5
    else
      f_M_goesOn_112 k0 6 σ_5
def f_M_goesOn_0b (k0 : St → Option (Int32 × St)) (σ : St) : Option (Int32 × St) :=
  if (sI σ 4) = 0 then
    bd (f_M_look σ) fun r_2 σ_3 =>
    if r_2 = 41 then
      bp (f_M_waitsLast σ_3) fun r_5 =>
      if r_5 = 20 then
        f_M_goesOn_43 k0 σ_3
      else
        bp (f_M_waitsLast σ_3) fun r_7 =>
        if r_7 = 23 then
          f_M_goesOn_43 k0 σ_3
        else
          bp (f_M_waitsLast σ_3) fun r_9 =>
          if r_9 = 24 then
            f_M_goesOn_43 k0 σ_3
          else
            f_M_goesOn_118 σ_3
    else
      f_M_goesOn_118 σ_3
  else
    f_M_goesOn_118 σ
def f_M_goesOn_0 : Nat → St → Option (Int32 × St)
  | 0 => fun  _ => none
  | n + 1 => f_M_goesOn_0b   (f_M_goesOn_0   n)
def f_M_goesOn (σ : St) : Option (Int32 × St) :=
  f_M_goesOn_0 FU σ
set_option maxHeartbeats 4000000 in
set_option maxRecDepth 20000 in
theorem t_M_goesOn_322 {r : Int32} {σ2 : St} (C : Cx g A p s m av meth c prog_13_method_35_code 2 "BellHammerModel" (some .boolean))  {σ : St} {H : Heap} {locs : List Loc} {ls : Array Slot} (hf : f_M_goesOn_322    σ = some (r, σ2)) (w : Wd g (wM g q) A s σ H locs) (hl : lv_has ls 2 [(0, .ref (q 0))]) : WK p l e s m av below meth c 3 g (wM g q) A (some (.int r)) σ2 H locs (F0 m 322 ls []) := by
  obtain ⟨hx, hb, hml, hown, hts, hK, hA, hZ, hlocks, hr, hN⟩ := id C
  unfold f_M_goesOn_322 at hf
  refine lv_aload_n hx hb d_M_goesOn_322 rfl (lv_at hl 0 rfl) ?_
  refine lv_bipush (v := 44) hx hb d_M_goesOn_323 (by decide) ?_
  obtain ⟨σ_2, h_1, hf⟩ := bp_e hf
  refine k_callV (As := [.int 44]) (rest := []) C w (c_M_asksSign (q := q) h_1) cv_M_asksSign k1449 (mr_0 C w) (by decide) hl.1 rfl (Nat.le_of_ble_eq_true rfl) d_M_goesOn_325 (fun H locs w => ?_)
  show WK p l e s m av below meth c 3 g (wM g q) A (some (.int r)) σ2 H locs (F0 m 328 ls [])
  refine lv_aload_n hx hb d_M_goesOn_328 rfl (lv_at hl 0 rfl) ?_
  refine mg_0_bad C w k1099 d_M_goesOn_329 ?_
  refine lv_if_eq (tgt := 337) hx hb d_M_goesOn_332 (by decide) (fun cd => ?_) (fun cd => ?_)
  · have hf := it_e cd hf
    refine lv_aload_n hx hb d_M_goesOn_337 rfl (lv_at hl 0 rfl) ?_
    obtain ⟨σ_4, h_3, hf⟩ := bp_e hf
    refine k_callV (As := []) (rest := []) C w (c_M_dropsToMark (q := q) h_3) cv_M_dropsToMark k1469 (mr_0 C w) (by decide) hl.1 rfl (Nat.le_of_ble_eq_true rfl) d_M_goesOn_338 (fun H locs w => ?_)
    show WK p l e s m av below meth c 3 g (wM g q) A (some (.int r)) σ2 H locs (F0 m 341 ls [])
    refine lv_aload_n hx hb d_M_goesOn_341 rfl (lv_at hl 0 rfl) ?_
    refine mg_0_wait C w k1140 d_M_goesOn_342 ?_
    refine lv_aload_n hx hb d_M_goesOn_345 rfl (lv_at hl 0 rfl) ?_
    refine mg_0_waits C w k1141 d_M_goesOn_346 ?_
    refine lv_iconst (v := 1) hx hb d_M_goesOn_349 (by decide) ?_
    refine lv_isub hx hb d_M_goesOn_350 ?_
    refine lv_topi (fun x_5 ex_5 => ?_)
    have hf := lt_e ex_5 hf
    refine lv_dup2_11 hx hb d_M_goesOn_351 rfl rfl ?_
    obtain ⟨g_6, hf⟩ := gd_e hf
    refine ml_36 C w g_6 d_M_goesOn_352 ?_
    refine lv_iconst (v := 2) hx hb d_M_goesOn_353 (by decide) ?_
    refine lv_iadd hx hb d_M_goesOn_354 ?_
    obtain ⟨g_7, hf⟩ := gd_e hf
    refine ms_36 C w g_7 d_M_goesOn_355 (fun σ_8 H locs eσ_8 w => ?_)
    have hf := lt_e eσ_8 hf
    refine lv_iconst (v := 1) hx hb d_M_goesOn_356 (by decide) ?_
    obtain ⟨rfl, rfl⟩ := some2_e hf
    exact k_zret C w (by decide) d_M_goesOn_357
  · have hf := if_e cd hf
    refine lv_iconst (v := 0) hx hb d_M_goesOn_335 (by decide) ?_
    obtain ⟨rfl, rfl⟩ := some2_e hf
    exact k_zret C w (by decide) d_M_goesOn_336
set_option maxHeartbeats 4000000 in
set_option maxRecDepth 20000 in
theorem t_M_goesOn_275 {r : Int32} {σ2 : St} (C : Cx g A p s m av meth c prog_13_method_35_code 2 "BellHammerModel" (some .boolean)) {k243 : Int32 → St → Option (Int32 × St)} (hk243 : ∀ (x1 : Int32) (σ : St) (H : Heap) (locs : List Loc) (ls : Array Slot), k243 x1 σ = some (r, σ2) → Wd g (wM g q) A s σ H locs → lv_has ls 2 [(0, .ref (q 0)), (1, .int x1)] → WK p l e s m av below meth c 3 g (wM g q) A (some (.int r)) σ2 H locs (F0 m 243 ls []))  {x1 : Int32} {σ : St} {H : Heap} {locs : List Loc} {ls : Array Slot} (hf : f_M_goesOn_275  k243 x1 σ = some (r, σ2)) (w : Wd g (wM g q) A s σ H locs) (hl : lv_has ls 2 [(0, .ref (q 0)), (1, .int x1)]) : WK p l e s m av below meth c 3 g (wM g q) A (some (.int r)) σ2 H locs (F0 m 275 ls []) := by
  obtain ⟨hx, hb, hml, hown, hts, hK, hA, hZ, hlocks, hr, hN⟩ := id C
  unfold f_M_goesOn_275 at hf
  refine lv_aload_n hx hb d_M_goesOn_275 rfl (lv_at hl 0 rfl) ?_
  obtain ⟨σ_2, h_1, hf⟩ := bp_e hf
  refine k_callV (As := []) (rest := []) C w (c_M_drops (q := q) h_1) cv_M_drops k1473 (mr_0 C w) (by decide) hl.1 rfl (Nat.le_of_ble_eq_true rfl) d_M_goesOn_276 (fun H locs w => ?_)
  show WK p l e s m av below meth c 3 g (wM g q) A (some (.int r)) σ2 H locs (F0 m 279 ls [])
  refine lv_goto (tgt := 243) hx hb d_M_goesOn_279 (by decide) ?_
  exact hk243 x1 σ_2 _ _ _ hf w (lv_sub hl [0, 1] rfl)
set_option maxHeartbeats 4000000 in
set_option maxRecDepth 20000 in
theorem t_M_goesOn_243b {r : Int32} {σ2 : St} (C : Cx g A p s m av meth c prog_13_method_35_code 2 "BellHammerModel" (some .boolean)) {k243 : Int32 → St → Option (Int32 × St)} (hk243 : ∀ (x1 : Int32) (σ : St) (H : Heap) (locs : List Loc) (ls : Array Slot), k243 x1 σ = some (r, σ2) → Wd g (wM g q) A s σ H locs → lv_has ls 2 [(0, .ref (q 0)), (1, .int x1)] → WK p l e s m av below meth c 3 g (wM g q) A (some (.int r)) σ2 H locs (F0 m 243 ls []))  {x1 : Int32} {σ : St} {H : Heap} {locs : List Loc} {ls : Array Slot} (hf : f_M_goesOn_243b  k243 x1 σ = some (r, σ2)) (w : Wd g (wM g q) A s σ H locs) (hl : lv_has ls 2 [(0, .ref (q 0)), (1, .int x1)]) : WK p l e s m av below meth c 3 g (wM g q) A (some (.int r)) σ2 H locs (F0 m 243 ls []) := by
  obtain ⟨hx, hb, hml, hown, hts, hK, hA, hZ, hlocks, hr, hN⟩ := id C
  unfold f_M_goesOn_243b at hf
  refine lv_aload_n hx hb d_M_goesOn_243 rfl (lv_at hl 0 rfl) ?_
  refine lv_iconst (v := 3) hx hb d_M_goesOn_244 (by decide) ?_
  obtain ⟨r_2, h_1, hf⟩ := bp_e hf
  refine k_callV (As := [.int 3]) (rest := []) C w (c_M_isOn (q := q) h_1) cv_M_isOn k1477 (mr_0 C w) (by decide) hl.1 rfl (Nat.le_of_ble_eq_true rfl) d_M_goesOn_245 (fun H locs w => ?_)
  show WK p l e s m av below meth c 3 g (wM g q) A (some (.int r)) σ2 H locs (F0 m 248 ls [.int r_2])
  refine lv_if_ne (tgt := 275) hx hb d_M_goesOn_248 (by decide) (fun cd => ?_) (fun cd => ?_)
  · have hf := if_e cd hf
    exact t_M_goesOn_275 C hk243 hf w (lv_sub hl [0, 1] rfl)
  · have hf := it_e cd hf
    refine lv_aload_n hx hb d_M_goesOn_251 rfl (lv_at hl 0 rfl) ?_
    refine lv_iconst (v := 4) hx hb d_M_goesOn_252 (by decide) ?_
    obtain ⟨r_4, h_3, hf⟩ := bp_e hf
    refine k_callV (As := [.int 4]) (rest := []) C w (c_M_isOn (q := q) h_3) cv_M_isOn k1477 (mr_0 C w) (by decide) hl.1 rfl (Nat.le_of_ble_eq_true rfl) d_M_goesOn_253 (fun H locs w => ?_)
    show WK p l e s m av below meth c 3 g (wM g q) A (some (.int r)) σ2 H locs (F0 m 256 ls [.int r_4])
    refine lv_if_ne (tgt := 275) hx hb d_M_goesOn_256 (by decide) (fun cd => ?_) (fun cd => ?_)
    · have hf := if_e cd hf
      exact t_M_goesOn_275 C hk243 hf w (lv_sub hl [0, 1] rfl)
    · have hf := it_e cd hf
      refine lv_aload_n hx hb d_M_goesOn_259 rfl (lv_at hl 0 rfl) ?_
      refine lv_iconst (v := 1) hx hb d_M_goesOn_260 (by decide) ?_
      obtain ⟨r_6, h_5, hf⟩ := bp_e hf
      refine k_callV (As := [.int 1]) (rest := []) C w (c_M_isOn (q := q) h_5) cv_M_isOn k1477 (mr_0 C w) (by decide) hl.1 rfl (Nat.le_of_ble_eq_true rfl) d_M_goesOn_261 (fun H locs w => ?_)
      show WK p l e s m av below meth c 3 g (wM g q) A (some (.int r)) σ2 H locs (F0 m 264 ls [.int r_6])
      refine lv_if_ne (tgt := 275) hx hb d_M_goesOn_264 (by decide) (fun cd => ?_) (fun cd => ?_)
      · have hf := if_e cd hf
        exact t_M_goesOn_275 C hk243 hf w (lv_sub hl [0, 1] rfl)
      · have hf := it_e cd hf
        refine lv_aload_n hx hb d_M_goesOn_267 rfl (lv_at hl 0 rfl) ?_
        refine lv_iconst (v := 2) hx hb d_M_goesOn_268 (by decide) ?_
        obtain ⟨r_8, h_7, hf⟩ := bp_e hf
        refine k_callV (As := [.int 2]) (rest := []) C w (c_M_isOn (q := q) h_7) cv_M_isOn k1477 (mr_0 C w) (by decide) hl.1 rfl (Nat.le_of_ble_eq_true rfl) d_M_goesOn_269 (fun H locs w => ?_)
        show WK p l e s m av below meth c 3 g (wM g q) A (some (.int r)) σ2 H locs (F0 m 272 ls [.int r_8])
        refine lv_if_eq (tgt := 282) hx hb d_M_goesOn_272 (by decide) (fun cd => ?_) (fun cd => ?_)
        · have hf := it_e cd hf
          refine lv_aload_n hx hb d_M_goesOn_282 rfl (lv_at hl 0 rfl) ?_
          refine mg_0_wait C w k1140 d_M_goesOn_283 ?_
          refine lv_aload_n hx hb d_M_goesOn_286 rfl (lv_at hl 0 rfl) ?_
          refine mg_0_waits C w k1141 d_M_goesOn_287 ?_
          refine lv_iload_n hx hb d_M_goesOn_290 rfl (lv_at hl 1 rfl) ?_
          obtain ⟨g_9, hf⟩ := gd_e hf
          refine ms_36 C w g_9 d_M_goesOn_291 (fun σ_10 H locs eσ_10 w => ?_)
          have hf := lt_e eσ_10 hf
          refine lv_aload_n hx hb d_M_goesOn_292 rfl (lv_at hl 0 rfl) ?_
          refine lv_dup hx hb d_M_goesOn_293 rfl ?_
          refine mg_0_waits C w k1141 d_M_goesOn_294 ?_
          refine lv_iconst (v := 1) hx hb d_M_goesOn_297 (by decide) ?_
          refine lv_iadd hx hb d_M_goesOn_298 ?_
          refine mp_0_waits C w k1141 d_M_goesOn_299 (fun σ_11 H locs eσ_11 w => ?_)
          have hf := lt_e eσ_11 hf
          refine lv_iconst (v := 1) hx hb d_M_goesOn_302 (by decide) ?_
          obtain ⟨rfl, rfl⟩ := some2_e hf
          exact k_zret C w (by decide) d_M_goesOn_303
        · have hf := if_e cd hf
          exact t_M_goesOn_275 C hk243 hf w (lv_sub hl [0, 1] rfl)
set_option maxHeartbeats 4000000 in
set_option maxRecDepth 20000 in
theorem t_M_goesOn_243 {r : Int32} {σ2 : St} (C : Cx g A p s m av meth c prog_13_method_35_code 2 "BellHammerModel" (some .boolean))  : ∀ (n : Nat) (x1 : Int32) (σ : St) (H : Heap) (locs : List Loc) (ls : Array Slot), f_M_goesOn_243   n x1 σ = some (r, σ2) → Wd g (wM g q) A s σ H locs → lv_has ls 2 [(0, .ref (q 0)), (1, .int x1)] → WK p l e s m av below meth c 3 g (wM g q) A (some (.int r)) σ2 H locs (F0 m 243 ls []) := by
  intro n
  induction n with
  | zero => intro x1 σ H locs ls hf; exact absurd hf (by intro z; cases z)
  | succ n ih => intro x1 σ H locs ls hf w hl; exact t_M_goesOn_243b C  ih hf w hl
set_option maxHeartbeats 4000000 in
set_option maxRecDepth 20000 in
theorem t_M_goesOn_221 {r : Int32} {σ2 : St} (C : Cx g A p s m av meth c prog_13_method_35_code 2 "BellHammerModel" (some .boolean))  {σ : St} {H : Heap} {locs : List Loc} {ls : Array Slot} (hf : f_M_goesOn_221    σ = some (r, σ2)) (w : Wd g (wM g q) A s σ H locs) (hl : lv_has ls 2 [(0, .ref (q 0))]) : WK p l e s m av below meth c 3 g (wM g q) A (some (.int r)) σ2 H locs (F0 m 221 ls []) := by
  obtain ⟨hx, hb, hml, hown, hts, hK, hA, hZ, hlocks, hr, hN⟩ := id C
  unfold f_M_goesOn_221 at hf
  refine lv_aload_n hx hb d_M_goesOn_221 rfl (lv_at hl 0 rfl) ?_
  refine mg_0_tape C w k1094 d_M_goesOn_222 ?_
  refine lv_aload_n hx hb d_M_goesOn_225 rfl (lv_at hl 0 rfl) ?_
  refine mg_0_at C w k1096 d_M_goesOn_226 ?_
  refine lv_iconst (v := 1) hx hb d_M_goesOn_229 (by decide) ?_
  refine lv_isub hx hb d_M_goesOn_230 ?_
  obtain ⟨g_1, hf⟩ := gd_e hf
  refine ml_28 C w g_1 d_M_goesOn_231 ?_
  refine lv_bipush (v := 43) hx hb d_M_goesOn_232 (by decide) ?_
  refine lv_icmp_ne (tgt := 241) hx hb d_M_goesOn_234 (by decide) (fun cd => ?_) (fun cd => ?_)
  · have hf := if_e cd hf
    refine lv_iconst (v := 2) hx hb d_M_goesOn_241 (by decide) ?_
    refine lv_istore_n (lv' := [(1, .int 2), (0, .ref (q 0))]) hx hb d_M_goesOn_242 rfl hl (by decide) rfl (fun ls hl => ?_)
    exact t_M_goesOn_243 C  FU 2 σ _ _ _ hf w (lv_sub hl [1, 0] rfl)
  · have hf := it_e cd hf
    refine lv_iconst (v := 1) hx hb d_M_goesOn_237 (by decide) ?_
    refine lv_goto (tgt := 242) hx hb d_M_goesOn_238 (by decide) ?_
    refine lv_istore_n (lv' := [(1, .int 1), (0, .ref (q 0))]) hx hb d_M_goesOn_242 rfl hl (by decide) rfl (fun ls hl => ?_)
    exact t_M_goesOn_243 C  FU 1 σ _ _ _ hf w (lv_sub hl [1, 0] rfl)
set_option maxHeartbeats 4000000 in
set_option maxRecDepth 20000 in
theorem t_M_goesOn_174 {r : Int32} {σ2 : St} (C : Cx g A p s m av meth c prog_13_method_35_code 2 "BellHammerModel" (some .boolean)) {k158 : Int32 → St → Option (Int32 × St)} (hk158 : ∀ (x1 : Int32) (σ : St) (H : Heap) (locs : List Loc) (ls : Array Slot), k158 x1 σ = some (r, σ2) → Wd g (wM g q) A s σ H locs → lv_has ls 2 [(0, .ref (q 0)), (1, .int x1)] → WK p l e s m av below meth c 3 g (wM g q) A (some (.int r)) σ2 H locs (F0 m 158 ls []))  {x1 : Int32} {σ : St} {H : Heap} {locs : List Loc} {ls : Array Slot} (hf : f_M_goesOn_174  k158 x1 σ = some (r, σ2)) (w : Wd g (wM g q) A s σ H locs) (hl : lv_has ls 2 [(0, .ref (q 0)), (1, .int x1)]) : WK p l e s m av below meth c 3 g (wM g q) A (some (.int r)) σ2 H locs (F0 m 174 ls []) := by
  obtain ⟨hx, hb, hml, hown, hts, hK, hA, hZ, hlocks, hr, hN⟩ := id C
  unfold f_M_goesOn_174 at hf
  refine lv_aload_n hx hb d_M_goesOn_174 rfl (lv_at hl 0 rfl) ?_
  obtain ⟨σ_2, h_1, hf⟩ := bp_e hf
  refine k_callV (As := []) (rest := []) C w (c_M_drops (q := q) h_1) cv_M_drops k1473 (mr_0 C w) (by decide) hl.1 rfl (Nat.le_of_ble_eq_true rfl) d_M_goesOn_175 (fun H locs w => ?_)
  show WK p l e s m av below meth c 3 g (wM g q) A (some (.int r)) σ2 H locs (F0 m 178 ls [])
  refine lv_goto (tgt := 158) hx hb d_M_goesOn_178 (by decide) ?_
  exact hk158 x1 σ_2 _ _ _ hf w (lv_sub hl [0, 1] rfl)
set_option maxHeartbeats 4000000 in
set_option maxRecDepth 20000 in
theorem t_M_goesOn_158b {r : Int32} {σ2 : St} (C : Cx g A p s m av meth c prog_13_method_35_code 2 "BellHammerModel" (some .boolean)) {k158 : Int32 → St → Option (Int32 × St)} (hk158 : ∀ (x1 : Int32) (σ : St) (H : Heap) (locs : List Loc) (ls : Array Slot), k158 x1 σ = some (r, σ2) → Wd g (wM g q) A s σ H locs → lv_has ls 2 [(0, .ref (q 0)), (1, .int x1)] → WK p l e s m av below meth c 3 g (wM g q) A (some (.int r)) σ2 H locs (F0 m 158 ls []))  {x1 : Int32} {σ : St} {H : Heap} {locs : List Loc} {ls : Array Slot} (hf : f_M_goesOn_158b  k158 x1 σ = some (r, σ2)) (w : Wd g (wM g q) A s σ H locs) (hl : lv_has ls 2 [(0, .ref (q 0)), (1, .int x1)]) : WK p l e s m av below meth c 3 g (wM g q) A (some (.int r)) σ2 H locs (F0 m 158 ls []) := by
  obtain ⟨hx, hb, hml, hown, hts, hK, hA, hZ, hlocks, hr, hN⟩ := id C
  unfold f_M_goesOn_158b at hf
  refine lv_aload_n hx hb d_M_goesOn_158 rfl (lv_at hl 0 rfl) ?_
  refine lv_iconst (v := 3) hx hb d_M_goesOn_159 (by decide) ?_
  obtain ⟨r_2, h_1, hf⟩ := bp_e hf
  refine k_callV (As := [.int 3]) (rest := []) C w (c_M_isOn (q := q) h_1) cv_M_isOn k1477 (mr_0 C w) (by decide) hl.1 rfl (Nat.le_of_ble_eq_true rfl) d_M_goesOn_160 (fun H locs w => ?_)
  show WK p l e s m av below meth c 3 g (wM g q) A (some (.int r)) σ2 H locs (F0 m 163 ls [.int r_2])
  refine lv_if_ne (tgt := 174) hx hb d_M_goesOn_163 (by decide) (fun cd => ?_) (fun cd => ?_)
  · have hf := if_e cd hf
    exact t_M_goesOn_174 C hk158 hf w (lv_sub hl [0, 1] rfl)
  · have hf := it_e cd hf
    refine lv_aload_n hx hb d_M_goesOn_166 rfl (lv_at hl 0 rfl) ?_
    refine lv_iconst (v := 4) hx hb d_M_goesOn_167 (by decide) ?_
    obtain ⟨r_4, h_3, hf⟩ := bp_e hf
    refine k_callV (As := [.int 4]) (rest := []) C w (c_M_isOn (q := q) h_3) cv_M_isOn k1477 (mr_0 C w) (by decide) hl.1 rfl (Nat.le_of_ble_eq_true rfl) d_M_goesOn_168 (fun H locs w => ?_)
    show WK p l e s m av below meth c 3 g (wM g q) A (some (.int r)) σ2 H locs (F0 m 171 ls [.int r_4])
    refine lv_if_eq (tgt := 181) hx hb d_M_goesOn_171 (by decide) (fun cd => ?_) (fun cd => ?_)
    · have hf := it_e cd hf
      refine lv_aload_n hx hb d_M_goesOn_181 rfl (lv_at hl 0 rfl) ?_
      refine mg_0_wait C w k1140 d_M_goesOn_182 ?_
      refine lv_aload_n hx hb d_M_goesOn_185 rfl (lv_at hl 0 rfl) ?_
      refine mg_0_waits C w k1141 d_M_goesOn_186 ?_
      refine lv_iload_n hx hb d_M_goesOn_189 rfl (lv_at hl 1 rfl) ?_
      obtain ⟨g_5, hf⟩ := gd_e hf
      refine ms_36 C w g_5 d_M_goesOn_190 (fun σ_6 H locs eσ_6 w => ?_)
      have hf := lt_e eσ_6 hf
      refine lv_aload_n hx hb d_M_goesOn_191 rfl (lv_at hl 0 rfl) ?_
      refine lv_dup hx hb d_M_goesOn_192 rfl ?_
      refine mg_0_waits C w k1141 d_M_goesOn_193 ?_
      refine lv_iconst (v := 1) hx hb d_M_goesOn_196 (by decide) ?_
      refine lv_iadd hx hb d_M_goesOn_197 ?_
      refine mp_0_waits C w k1141 d_M_goesOn_198 (fun σ_7 H locs eσ_7 w => ?_)
      have hf := lt_e eσ_7 hf
      refine lv_iconst (v := 1) hx hb d_M_goesOn_201 (by decide) ?_
      obtain ⟨rfl, rfl⟩ := some2_e hf
      exact k_zret C w (by decide) d_M_goesOn_202
    · have hf := if_e cd hf
      exact t_M_goesOn_174 C hk158 hf w (lv_sub hl [0, 1] rfl)
set_option maxHeartbeats 4000000 in
set_option maxRecDepth 20000 in
theorem t_M_goesOn_158 {r : Int32} {σ2 : St} (C : Cx g A p s m av meth c prog_13_method_35_code 2 "BellHammerModel" (some .boolean))  : ∀ (n : Nat) (x1 : Int32) (σ : St) (H : Heap) (locs : List Loc) (ls : Array Slot), f_M_goesOn_158   n x1 σ = some (r, σ2) → Wd g (wM g q) A s σ H locs → lv_has ls 2 [(0, .ref (q 0)), (1, .int x1)] → WK p l e s m av below meth c 3 g (wM g q) A (some (.int r)) σ2 H locs (F0 m 158 ls []) := by
  intro n
  induction n with
  | zero => intro x1 σ H locs ls hf; exact absurd hf (by intro z; cases z)
  | succ n ih => intro x1 σ H locs ls hf w hl; exact t_M_goesOn_158b C  ih hf w hl
set_option maxHeartbeats 4000000 in
set_option maxRecDepth 20000 in
theorem t_M_goesOn_136 {r : Int32} {σ2 : St} (C : Cx g A p s m av meth c prog_13_method_35_code 2 "BellHammerModel" (some .boolean))  {σ : St} {H : Heap} {locs : List Loc} {ls : Array Slot} (hf : f_M_goesOn_136    σ = some (r, σ2)) (w : Wd g (wM g q) A s σ H locs) (hl : lv_has ls 2 [(0, .ref (q 0))]) : WK p l e s m av below meth c 3 g (wM g q) A (some (.int r)) σ2 H locs (F0 m 136 ls []) := by
  obtain ⟨hx, hb, hml, hown, hts, hK, hA, hZ, hlocks, hr, hN⟩ := id C
  unfold f_M_goesOn_136 at hf
  refine lv_aload_n hx hb d_M_goesOn_136 rfl (lv_at hl 0 rfl) ?_
  refine mg_0_tape C w k1094 d_M_goesOn_137 ?_
  refine lv_aload_n hx hb d_M_goesOn_140 rfl (lv_at hl 0 rfl) ?_
  refine mg_0_at C w k1096 d_M_goesOn_141 ?_
  refine lv_iconst (v := 1) hx hb d_M_goesOn_144 (by decide) ?_
  refine lv_isub hx hb d_M_goesOn_145 ?_
  obtain ⟨g_1, hf⟩ := gd_e hf
  refine ml_28 C w g_1 d_M_goesOn_146 ?_
  refine lv_bipush (v := 42) hx hb d_M_goesOn_147 (by decide) ?_
  refine lv_icmp_ne (tgt := 156) hx hb d_M_goesOn_149 (by decide) (fun cd => ?_) (fun cd => ?_)
  · have hf := if_e cd hf
    refine lv_iconst (v := 4) hx hb d_M_goesOn_156 (by decide) ?_
    refine lv_istore_n (lv' := [(1, .int 4), (0, .ref (q 0))]) hx hb d_M_goesOn_157 rfl hl (by decide) rfl (fun ls hl => ?_)
    exact t_M_goesOn_158 C  FU 4 σ _ _ _ hf w (lv_sub hl [1, 0] rfl)
  · have hf := it_e cd hf
    refine lv_iconst (v := 3) hx hb d_M_goesOn_152 (by decide) ?_
    refine lv_goto (tgt := 157) hx hb d_M_goesOn_153 (by decide) ?_
    refine lv_istore_n (lv' := [(1, .int 3), (0, .ref (q 0))]) hx hb d_M_goesOn_157 rfl hl (by decide) rfl (fun ls hl => ?_)
    exact t_M_goesOn_158 C  FU 3 σ _ _ _ hf w (lv_sub hl [1, 0] rfl)
set_option maxHeartbeats 4000000 in
set_option maxRecDepth 20000 in
theorem t_M_goesOn_118 {r : Int32} {σ2 : St} (C : Cx g A p s m av meth c prog_13_method_35_code 2 "BellHammerModel" (some .boolean))  {σ : St} {H : Heap} {locs : List Loc} {ls : Array Slot} (hf : f_M_goesOn_118    σ = some (r, σ2)) (w : Wd g (wM g q) A s σ H locs) (hl : lv_has ls 2 [(0, .ref (q 0))]) : WK p l e s m av below meth c 3 g (wM g q) A (some (.int r)) σ2 H locs (F0 m 118 ls []) := by
  obtain ⟨hx, hb, hml, hown, hts, hK, hA, hZ, hlocks, hr, hN⟩ := id C
  unfold f_M_goesOn_118 at hf
  refine lv_aload_n hx hb d_M_goesOn_118 rfl (lv_at hl 0 rfl) ?_
  refine lv_bipush (v := 42) hx hb d_M_goesOn_119 (by decide) ?_
  obtain ⟨r_2, σ_3, h_1, hf⟩ := bd_e hf
  refine k_callV (As := [.int 42]) (rest := []) C w (c_M_takesSign (q := q) h_1) cv_M_takesSign k1453 (mr_0 C w) (by decide) hl.1 rfl (Nat.le_of_ble_eq_true rfl) d_M_goesOn_121 (fun H locs w => ?_)
  show WK p l e s m av below meth c 3 g (wM g q) A (some (.int r)) σ2 H locs (F0 m 124 ls [.int r_2])
  refine lv_if_ne (tgt := 136) hx hb d_M_goesOn_124 (by decide) (fun cd => ?_) (fun cd => ?_)
  · have hf := if_e cd hf
    exact t_M_goesOn_136 C  hf w (lv_sub hl [0] rfl)
  · have hf := it_e cd hf
    refine lv_aload_n hx hb d_M_goesOn_127 rfl (lv_at hl 0 rfl) ?_
    refine lv_bipush (v := 47) hx hb d_M_goesOn_128 (by decide) ?_
    obtain ⟨r_5, σ_6, h_4, hf⟩ := bd_e hf
    refine k_callV (As := [.int 47]) (rest := []) C w (c_M_takesSign (q := q) h_4) cv_M_takesSign k1453 (mr_0 C w) (by decide) hl.1 rfl (Nat.le_of_ble_eq_true rfl) d_M_goesOn_130 (fun H locs w => ?_)
    show WK p l e s m av below meth c 3 g (wM g q) A (some (.int r)) σ2 H locs (F0 m 133 ls [.int r_5])
    refine lv_if_eq (tgt := 203) hx hb d_M_goesOn_133 (by decide) (fun cd => ?_) (fun cd => ?_)
    · have hf := it_e cd hf
      refine lv_aload_n hx hb d_M_goesOn_203 rfl (lv_at hl 0 rfl) ?_
      refine lv_bipush (v := 43) hx hb d_M_goesOn_204 (by decide) ?_
      obtain ⟨r_8, σ_9, h_7, hf⟩ := bd_e hf
      refine k_callV (As := [.int 43]) (rest := []) C w (c_M_takesSign (q := q) h_7) cv_M_takesSign k1453 (mr_0 C w) (by decide) hl.1 rfl (Nat.le_of_ble_eq_true rfl) d_M_goesOn_206 (fun H locs w => ?_)
      show WK p l e s m av below meth c 3 g (wM g q) A (some (.int r)) σ2 H locs (F0 m 209 ls [.int r_8])
      refine lv_if_ne (tgt := 221) hx hb d_M_goesOn_209 (by decide) (fun cd => ?_) (fun cd => ?_)
      · have hf := if_e cd hf
        exact t_M_goesOn_221 C  hf w (lv_sub hl [0] rfl)
      · have hf := it_e cd hf
        refine lv_aload_n hx hb d_M_goesOn_212 rfl (lv_at hl 0 rfl) ?_
        refine lv_bipush (v := 45) hx hb d_M_goesOn_213 (by decide) ?_
        obtain ⟨r_11, σ_12, h_10, hf⟩ := bd_e hf
        refine k_callV (As := [.int 45]) (rest := []) C w (c_M_takesSign (q := q) h_10) cv_M_takesSign k1453 (mr_0 C w) (by decide) hl.1 rfl (Nat.le_of_ble_eq_true rfl) d_M_goesOn_215 (fun H locs w => ?_)
        show WK p l e s m av below meth c 3 g (wM g q) A (some (.int r)) σ2 H locs (F0 m 218 ls [.int r_11])
        refine lv_if_eq (tgt := 304) hx hb d_M_goesOn_218 (by decide) (fun cd => ?_) (fun cd => ?_)
        · have hf := it_e cd hf
          refine lv_aload_n hx hb d_M_goesOn_304 rfl (lv_at hl 0 rfl) ?_
          obtain ⟨r_14, h_13, hf⟩ := bp_e hf
          refine k_callV (As := []) (rest := []) C w (c_M_waitsLast (q := q) h_13) cv_M_waitsLast k1461 (mr_0 C w) (by decide) hl.1 rfl (Nat.le_of_ble_eq_true rfl) d_M_goesOn_305 (fun H locs w => ?_)
          show WK p l e s m av below meth c 3 g (wM g q) A (some (.int r)) σ2 H locs (F0 m 308 ls [.int r_14])
          refine lv_bipush (v := 21) hx hb d_M_goesOn_308 (by decide) ?_
          refine lv_icmp_eq (tgt := 322) hx hb d_M_goesOn_310 (by decide) (fun cd => ?_) (fun cd => ?_)
          · have hf := it_e cd hf
            exact t_M_goesOn_322 C  hf w (lv_sub hl [0] rfl)
          · have hf := if_e cd hf
            refine lv_aload_n hx hb d_M_goesOn_313 rfl (lv_at hl 0 rfl) ?_
            obtain ⟨r_16, h_15, hf⟩ := bp_e hf
            refine k_callV (As := []) (rest := []) C w (c_M_waitsLast (q := q) h_15) cv_M_waitsLast k1461 (mr_0 C w) (by decide) hl.1 rfl (Nat.le_of_ble_eq_true rfl) d_M_goesOn_314 (fun H locs w => ?_)
            show WK p l e s m av below meth c 3 g (wM g q) A (some (.int r)) σ2 H locs (F0 m 317 ls [.int r_16])
            refine lv_bipush (v := 22) hx hb d_M_goesOn_317 (by decide) ?_
            refine lv_icmp_ne (tgt := 358) hx hb d_M_goesOn_319 (by decide) (fun cd => ?_) (fun cd => ?_)
            · have hf := if_e cd hf
              refine lv_aload_n hx hb d_M_goesOn_358 rfl (lv_at hl 0 rfl) ?_
              obtain ⟨r_18, h_17, hf⟩ := bp_e hf
              refine k_callV (As := []) (rest := []) C w (c_M_waitsLast (q := q) h_17) cv_M_waitsLast k1461 (mr_0 C w) (by decide) hl.1 rfl (Nat.le_of_ble_eq_true rfl) d_M_goesOn_359 (fun H locs w => ?_)
              show WK p l e s m av below meth c 3 g (wM g q) A (some (.int r)) σ2 H locs (F0 m 362 ls [.int r_18])
              refine lv_iconst (v := (-1)) hx hb d_M_goesOn_362 (by decide) ?_
              refine lv_icmp_eq (tgt := 382) hx hb d_M_goesOn_363 (by decide) (fun cd => ?_) (fun cd => ?_)
              · have hf := it_e cd hf
                refine lv_iconst (v := 0) hx hb d_M_goesOn_382 (by decide) ?_
                obtain ⟨rfl, rfl⟩ := some2_e hf
                exact k_zret C w (by decide) d_M_goesOn_383
              · have hf := if_e cd hf
                refine lv_aload_n hx hb d_M_goesOn_366 rfl (lv_at hl 0 rfl) ?_
                refine mg_0_bad C w k1099 d_M_goesOn_367 ?_
                refine lv_if_ne (tgt := 382) hx hb d_M_goesOn_370 (by decide) (fun cd => ?_) (fun cd => ?_)
                · have hf := if_e cd hf
                  refine lv_iconst (v := 0) hx hb d_M_goesOn_382 (by decide) ?_
                  obtain ⟨rfl, rfl⟩ := some2_e hf
                  exact k_zret C w (by decide) d_M_goesOn_383
                · have hf := it_e cd hf
                  refine lv_aload_n hx hb d_M_goesOn_373 rfl (lv_at hl 0 rfl) ?_
                  refine lv_iconst (v := 1) hx hb d_M_goesOn_374 (by decide) ?_
                  refine lv_aload_n hx hb d_M_goesOn_375 rfl (lv_at hl 0 rfl) ?_
                  refine mg_0_at C w k1096 d_M_goesOn_376 ?_
                  obtain ⟨σ_20, h_19, hf⟩ := bp_e hf
                  refine k_callV (As := [.int 1, .int (sI σ_12 1)]) (rest := []) C w (c_M_fail (q := q) h_19) cv_M_fail k1362 (mr_0 C w) (by decide) hl.1 rfl (Nat.le_of_ble_eq_true rfl) d_M_goesOn_379 (fun H locs w => ?_)
                  show WK p l e s m av below meth c 3 g (wM g q) A (some (.int r)) σ2 H locs (F0 m 382 ls [])
                  refine lv_iconst (v := 0) hx hb d_M_goesOn_382 (by decide) ?_
                  obtain ⟨rfl, rfl⟩ := some2_e hf
                  exact k_zret C w (by decide) d_M_goesOn_383
            · have hf := it_e cd hf
              exact t_M_goesOn_322 C  hf w (lv_sub hl [0] rfl)
        · have hf := if_e cd hf
          exact t_M_goesOn_221 C  hf w (lv_sub hl [0] rfl)
    · have hf := if_e cd hf
      exact t_M_goesOn_136 C  hf w (lv_sub hl [0] rfl)
set_option maxHeartbeats 4000000 in
set_option maxRecDepth 20000 in
theorem t_M_goesOn_112 {r : Int32} {σ2 : St} (C : Cx g A p s m av meth c prog_13_method_35_code 2 "BellHammerModel" (some .boolean)) {k0 : St → Option (Int32 × St)} (hk0 : ∀  (σ : St) (H : Heap) (locs : List Loc) (ls : Array Slot), k0  σ = some (r, σ2) → Wd g (wM g q) A s σ H locs → lv_has ls 2 [(0, .ref (q 0))] → WK p l e s m av below meth c 3 g (wM g q) A (some (.int r)) σ2 H locs (F0 m 0 ls []))  {t0 : Int32} {σ : St} {H : Heap} {locs : List Loc} {ls : Array Slot} (hf : f_M_goesOn_112  k0 t0 σ = some (r, σ2)) (w : Wd g (wM g q) A s σ H locs) (hl : lv_has ls 2 [(0, .ref (q 0))]) : WK p l e s m av below meth c 3 g (wM g q) A (some (.int r)) σ2 H locs (F0 m 112 ls [.int t0, .ref (q 0)]) := by
  obtain ⟨hx, hb, hml, hown, hts, hK, hA, hZ, hlocks, hr, hN⟩ := id C
  unfold f_M_goesOn_112 at hf
  obtain ⟨σ_2, h_1, hf⟩ := bp_e hf
  refine k_callV (As := [.int t0]) (rest := []) C w (c_M_code (q := q) h_1) cv_M_code k1437 (mr_0 C w) (by decide) hl.1 rfl (Nat.le_of_ble_eq_true rfl) d_M_goesOn_112 (fun H locs w => ?_)
  show WK p l e s m av below meth c 3 g (wM g q) A (some (.int r)) σ2 H locs (F0 m 115 ls [])
  refine lv_goto (tgt := 0) hx hb d_M_goesOn_115 (by decide) ?_
  exact hk0  σ_2 _ _ _ hf w (lv_sub hl [0] rfl)
set_option maxHeartbeats 4000000 in
set_option maxRecDepth 20000 in
theorem t_M_goesOn_43 {r : Int32} {σ2 : St} (C : Cx g A p s m av meth c prog_13_method_35_code 2 "BellHammerModel" (some .boolean)) {k0 : St → Option (Int32 × St)} (hk0 : ∀  (σ : St) (H : Heap) (locs : List Loc) (ls : Array Slot), k0  σ = some (r, σ2) → Wd g (wM g q) A s σ H locs → lv_has ls 2 [(0, .ref (q 0))] → WK p l e s m av below meth c 3 g (wM g q) A (some (.int r)) σ2 H locs (F0 m 0 ls []))  {σ : St} {H : Heap} {locs : List Loc} {ls : Array Slot} (hf : f_M_goesOn_43  k0  σ = some (r, σ2)) (w : Wd g (wM g q) A s σ H locs) (hl : lv_has ls 2 [(0, .ref (q 0))]) : WK p l e s m av below meth c 3 g (wM g q) A (some (.int r)) σ2 H locs (F0 m 43 ls []) := by
  obtain ⟨hx, hb, hml, hown, hts, hK, hA, hZ, hlocks, hr, hN⟩ := id C
  unfold f_M_goesOn_43 at hf
  refine lv_aload_n hx hb d_M_goesOn_43 rfl (lv_at hl 0 rfl) ?_
  refine lv_dup hx hb d_M_goesOn_44 rfl ?_
  refine mg_0_at C w k1096 d_M_goesOn_45 ?_
  refine lv_iconst (v := 1) hx hb d_M_goesOn_48 (by decide) ?_
  refine lv_iadd hx hb d_M_goesOn_49 ?_
  refine mp_0_at C w k1096 d_M_goesOn_50 (fun σ_1 H locs eσ_1 w => ?_)
  have hf := lt_e eσ_1 hf
  refine lv_aload_n hx hb d_M_goesOn_53 rfl (lv_at hl 0 rfl) ?_
  obtain ⟨σ_3, h_2, hf⟩ := bp_e hf
  refine k_callV (As := []) (rest := []) C w (c_M_dropsToMark (q := q) h_2) cv_M_dropsToMark k1469 (mr_0 C w) (by decide) hl.1 rfl (Nat.le_of_ble_eq_true rfl) d_M_goesOn_54 (fun H locs w => ?_)
  show WK p l e s m av below meth c 3 g (wM g q) A (some (.int r)) σ2 H locs (F0 m 57 ls [])
  refine lv_aload_n hx hb d_M_goesOn_57 rfl (lv_at hl 0 rfl) ?_
  refine lv_dup hx hb d_M_goesOn_58 rfl ?_
  refine mg_0_waits C w k1141 d_M_goesOn_59 ?_
  refine lv_iconst (v := 1) hx hb d_M_goesOn_62 (by decide) ?_
  refine lv_isub hx hb d_M_goesOn_63 ?_
  refine mp_0_waits C w k1141 d_M_goesOn_64 (fun σ_4 H locs eσ_4 w => ?_)
  have hf := lt_e eσ_4 hf
  refine lv_aload_n hx hb d_M_goesOn_67 rfl (lv_at hl 0 rfl) ?_
  refine lv_dup hx hb d_M_goesOn_68 rfl ?_
  refine mg_0_open C w k1142 d_M_goesOn_69 ?_
  refine lv_iconst (v := 1) hx hb d_M_goesOn_72 (by decide) ?_
  refine lv_isub hx hb d_M_goesOn_73 ?_
  refine mp_0_open C w k1142 d_M_goesOn_74 (fun σ_5 H locs eσ_5 w => ?_)
  have hf := lt_e eσ_5 hf
  refine lv_aload_n hx hb d_M_goesOn_77 rfl (lv_at hl 0 rfl) ?_
  refine mg_0_wait C w k1140 d_M_goesOn_78 ?_
  refine lv_aload_n hx hb d_M_goesOn_81 rfl (lv_at hl 0 rfl) ?_
  refine mg_0_waits C w k1141 d_M_goesOn_82 ?_
  obtain ⟨g_6, hf⟩ := gd_e hf
  refine ml_36 C w g_6 d_M_goesOn_85 ?_
  refine lv_bipush (v := 20) hx hb d_M_goesOn_86 (by decide) ?_
  refine lv_icmp_eq (tgt := 0) hx hb d_M_goesOn_88 (by decide) (fun cd => ?_) (fun cd => ?_)
  · have hf := it_e cd hf
    exact hk0  σ_5 _ _ _ hf w (lv_sub hl [0] rfl)
  · have hf := if_e cd hf
    refine lv_aload_n hx hb d_M_goesOn_91 rfl (lv_at hl 0 rfl) ?_
    refine lv_aload_n hx hb d_M_goesOn_92 rfl (lv_at hl 0 rfl) ?_
    refine mg_0_wait C w k1140 d_M_goesOn_93 ?_
    refine lv_aload_n hx hb d_M_goesOn_96 rfl (lv_at hl 0 rfl) ?_
    refine mg_0_waits C w k1141 d_M_goesOn_97 ?_
    obtain ⟨g_7, hf⟩ := gd_e hf
    refine ml_36 C w g_7 d_M_goesOn_100 ?_
    refine lv_bipush (v := 23) hx hb d_M_goesOn_101 (by decide) ?_
    refine lv_icmp_ne (tgt := 110) hx hb d_M_goesOn_103 (by decide) (fun cd => ?_) (fun cd => ?_)
    · have hf := if_e cd hf
      refine lv_bipush (v := 6) hx hb d_M_goesOn_110 (by decide) ?_
      exact t_M_goesOn_112 C hk0 hf w (lv_sub hl [0] rfl)
    · have hf := it_e cd hf
      refine lv_iconst (v := 5) hx hb d_M_goesOn_106 (by decide) ?_
      refine lv_goto (tgt := 112) hx hb d_M_goesOn_107 (by decide) ?_
      exact t_M_goesOn_112 C hk0 hf w (lv_sub hl [0] rfl)
set_option maxHeartbeats 4000000 in
set_option maxRecDepth 20000 in
theorem t_M_goesOn_0b {r : Int32} {σ2 : St} (C : Cx g A p s m av meth c prog_13_method_35_code 2 "BellHammerModel" (some .boolean)) {k0 : St → Option (Int32 × St)} (hk0 : ∀  (σ : St) (H : Heap) (locs : List Loc) (ls : Array Slot), k0  σ = some (r, σ2) → Wd g (wM g q) A s σ H locs → lv_has ls 2 [(0, .ref (q 0))] → WK p l e s m av below meth c 3 g (wM g q) A (some (.int r)) σ2 H locs (F0 m 0 ls []))  {σ : St} {H : Heap} {locs : List Loc} {ls : Array Slot} (hf : f_M_goesOn_0b  k0  σ = some (r, σ2)) (w : Wd g (wM g q) A s σ H locs) (hl : lv_has ls 2 [(0, .ref (q 0))]) : WK p l e s m av below meth c 3 g (wM g q) A (some (.int r)) σ2 H locs (F0 m 0 ls []) := by
  obtain ⟨hx, hb, hml, hown, hts, hK, hA, hZ, hlocks, hr, hN⟩ := id C
  unfold f_M_goesOn_0b at hf
  refine lv_aload_n hx hb d_M_goesOn_0 rfl (lv_at hl 0 rfl) ?_
  refine mg_0_bad C w k1099 d_M_goesOn_1 ?_
  refine lv_if_ne (tgt := 118) hx hb d_M_goesOn_4 (by decide) (fun cd => ?_) (fun cd => ?_)
  · have hf := if_e cd hf
    exact t_M_goesOn_118 C  hf w (lv_sub hl [0] rfl)
  · have hf := it_e cd hf
    refine lv_aload_n hx hb d_M_goesOn_7 rfl (lv_at hl 0 rfl) ?_
    obtain ⟨r_2, σ_3, h_1, hf⟩ := bd_e hf
    refine k_callV (As := []) (rest := []) C w (c_M_look (q := q) h_1) cv_M_look k1354 (mr_0 C w) (by decide) hl.1 rfl (Nat.le_of_ble_eq_true rfl) d_M_goesOn_8 (fun H locs w => ?_)
    show WK p l e s m av below meth c 3 g (wM g q) A (some (.int r)) σ2 H locs (F0 m 11 ls [.int r_2])
    refine lv_bipush (v := 41) hx hb d_M_goesOn_11 (by decide) ?_
    refine lv_icmp_ne (tgt := 118) hx hb d_M_goesOn_13 (by decide) (fun cd => ?_) (fun cd => ?_)
    · have hf := if_e cd hf
      exact t_M_goesOn_118 C  hf w (lv_sub hl [0] rfl)
    · have hf := it_e cd hf
      refine lv_aload_n hx hb d_M_goesOn_16 rfl (lv_at hl 0 rfl) ?_
      obtain ⟨r_5, h_4, hf⟩ := bp_e hf
      refine k_callV (As := []) (rest := []) C w (c_M_waitsLast (q := q) h_4) cv_M_waitsLast k1461 (mr_0 C w) (by decide) hl.1 rfl (Nat.le_of_ble_eq_true rfl) d_M_goesOn_17 (fun H locs w => ?_)
      show WK p l e s m av below meth c 3 g (wM g q) A (some (.int r)) σ2 H locs (F0 m 20 ls [.int r_5])
      refine lv_bipush (v := 20) hx hb d_M_goesOn_20 (by decide) ?_
      refine lv_icmp_eq (tgt := 43) hx hb d_M_goesOn_22 (by decide) (fun cd => ?_) (fun cd => ?_)
      · have hf := it_e cd hf
        exact t_M_goesOn_43 C hk0 hf w (lv_sub hl [0] rfl)
      · have hf := if_e cd hf
        refine lv_aload_n hx hb d_M_goesOn_25 rfl (lv_at hl 0 rfl) ?_
        obtain ⟨r_7, h_6, hf⟩ := bp_e hf
        refine k_callV (As := []) (rest := []) C w (c_M_waitsLast (q := q) h_6) cv_M_waitsLast k1461 (mr_0 C w) (by decide) hl.1 rfl (Nat.le_of_ble_eq_true rfl) d_M_goesOn_26 (fun H locs w => ?_)
        show WK p l e s m av below meth c 3 g (wM g q) A (some (.int r)) σ2 H locs (F0 m 29 ls [.int r_7])
        refine lv_bipush (v := 23) hx hb d_M_goesOn_29 (by decide) ?_
        refine lv_icmp_eq (tgt := 43) hx hb d_M_goesOn_31 (by decide) (fun cd => ?_) (fun cd => ?_)
        · have hf := it_e cd hf
          exact t_M_goesOn_43 C hk0 hf w (lv_sub hl [0] rfl)
        · have hf := if_e cd hf
          refine lv_aload_n hx hb d_M_goesOn_34 rfl (lv_at hl 0 rfl) ?_
          obtain ⟨r_9, h_8, hf⟩ := bp_e hf
          refine k_callV (As := []) (rest := []) C w (c_M_waitsLast (q := q) h_8) cv_M_waitsLast k1461 (mr_0 C w) (by decide) hl.1 rfl (Nat.le_of_ble_eq_true rfl) d_M_goesOn_35 (fun H locs w => ?_)
          show WK p l e s m av below meth c 3 g (wM g q) A (some (.int r)) σ2 H locs (F0 m 38 ls [.int r_9])
          refine lv_bipush (v := 24) hx hb d_M_goesOn_38 (by decide) ?_
          refine lv_icmp_ne (tgt := 118) hx hb d_M_goesOn_40 (by decide) (fun cd => ?_) (fun cd => ?_)
          · have hf := if_e cd hf
            exact t_M_goesOn_118 C  hf w (lv_sub hl [0] rfl)
          · have hf := it_e cd hf
            exact t_M_goesOn_43 C hk0 hf w (lv_sub hl [0] rfl)
set_option maxHeartbeats 4000000 in
set_option maxRecDepth 20000 in
theorem t_M_goesOn_0 {r : Int32} {σ2 : St} (C : Cx g A p s m av meth c prog_13_method_35_code 2 "BellHammerModel" (some .boolean))  : ∀ (n : Nat)  (σ : St) (H : Heap) (locs : List Loc) (ls : Array Slot), f_M_goesOn_0   n  σ = some (r, σ2) → Wd g (wM g q) A s σ H locs → lv_has ls 2 [(0, .ref (q 0))] → WK p l e s m av below meth c 3 g (wM g q) A (some (.int r)) σ2 H locs (F0 m 0 ls []) := by
  intro n
  induction n with
  | zero => intro  σ H locs ls hf; exact absurd hf (by intro z; cases z)
  | succ n ih => intro  σ H locs ls hf w hl; exact t_M_goesOn_0b C  ih hf w hl
set_option maxHeartbeats 4000000 in
set_option maxRecDepth 20000 in
theorem c_M_goesOn {l : Launch} {g : GX} {q : Nat → Nat}  {σ : St} {r : Int32} {σ2 : St} (hf : f_M_goesOn   σ = some (r, σ2)) : KK l y_M_goesOn prog_13_method_35_code 2 (some .boolean) 3 g (wM g q) σ [.ref (q 0)] (some (.int r)) (wM g q) σ2 := by
  refine KK_of (plainFor_of_name (by decide)) (Nat.le_of_ble_eq_true rfl) (fun p e s m below meth c A ls C w hl => ?_)
  have hl : lv_has ls 2 [(0, .ref (q 0))] := hl
  obtain ⟨hx, hb, hml, hown, hts, hK, hA, hZ, hlocks, hr, hN⟩ := id C
  unfold f_M_goesOn at hf
  exact t_M_goesOn_0 C  FU  σ _ _ _ hf w (lv_sub hl [0] rfl)
def f_M_sumsTold_78 (x1 : Int32) (σ : St) : Option (St) :=
  lt (uI σ 13 x1) fun σ_1 =>
  some σ_1
def f_M_sumsTold_53b (k53 : Int32 → St → Option (St)) (x1 : Int32) (σ : St) : Option (St) :=
  if (sI σ 4) = 0 then
    if (sI σ 11) ≤ (sI σ 13) then
      f_M_sumsTold_78 x1 σ
    else
      bp (f_M_drops σ) fun σ_2 =>
      k53 x1 σ_2
  else
    f_M_sumsTold_78 x1 σ
def f_M_sumsTold_53 : Nat → Int32 → St → Option (St)
  | 0 => fun _ _ => none
  | n + 1 => f_M_sumsTold_53b   (f_M_sumsTold_53   n)
def f_M_sumsTold_15b (k15 : Int32 → Int32 → St → Option (St)) (x1 : Int32) (x2 : Int32) (σ : St) : Option (St) :=
  if x2 = 0 then
    f_M_sumsTold_53 FU x1 σ
  else
    if (sI σ 4) = 0 then
      bp (f_M_onePart σ) fun σ_2 =>
      if (sI σ_2 4) = 0 then
        bd (f_M_goesOn σ_2) fun r_4 σ_5 =>
        if r_4 = 0 then
          k15 x1 0 σ_5
        else
          k15 x1 1 σ_5
      else
        k15 x1 0 σ_2
    else
      f_M_sumsTold_53 FU x1 σ
def f_M_sumsTold_15 : Nat → Int32 → Int32 → St → Option (St)
  | 0 => fun _ _ _ => none
  | n + 1 => f_M_sumsTold_15b   (f_M_sumsTold_15   n)
def f_M_sumsTold (σ : St) : Option (St) :=
  lt ((sI σ 13)) fun x_1 =>
  lt (uI σ 13 (sI σ 11)) fun σ_2 =>
  f_M_sumsTold_15 FU x_1 1 σ_2
set_option maxHeartbeats 4000000 in
set_option maxRecDepth 20000 in
theorem t_M_sumsTold_78 {σ2 : St} (C : Cx g A p s m av meth c prog_13_method_36_code 3 "BellHammerModel" none)  {x1 : Int32} {σ : St} {H : Heap} {locs : List Loc} {ls : Array Slot} (hf : f_M_sumsTold_78   x1 σ = some σ2) (w : Wd g (wM g q) A s σ H locs) (hl : lv_has ls 3 [(0, .ref (q 0)), (1, .int x1)]) : WK p l e s m av below meth c 5 g (wM g q) A none σ2 H locs (F0 m 78 ls []) := by
  obtain ⟨hx, hb, hml, hown, hts, hK, hA, hZ, hlocks, hr, hN⟩ := id C
  unfold f_M_sumsTold_78 at hf
  refine lv_aload_n hx hb d_M_sumsTold_78 rfl (lv_at hl 0 rfl) ?_
  refine lv_iload_n hx hb d_M_sumsTold_79 rfl (lv_at hl 1 rfl) ?_
  refine mp_0_base C w k1145 d_M_sumsTold_80 (fun σ_1 H locs eσ_1 w => ?_)
  have hf := lt_e eσ_1 hf
  cases some_e hf
  exact k_vret C w d_M_sumsTold_83
set_option maxHeartbeats 4000000 in
set_option maxRecDepth 20000 in
theorem t_M_sumsTold_53b {σ2 : St} (C : Cx g A p s m av meth c prog_13_method_36_code 3 "BellHammerModel" none) {k53 : Int32 → St → Option (St)} (hk53 : ∀ (x1 : Int32) (σ : St) (H : Heap) (locs : List Loc) (ls : Array Slot), k53 x1 σ = some σ2 → Wd g (wM g q) A s σ H locs → lv_has ls 3 [(0, .ref (q 0)), (1, .int x1)] → WK p l e s m av below meth c 5 g (wM g q) A none σ2 H locs (F0 m 53 ls []))  {x1 : Int32} {σ : St} {H : Heap} {locs : List Loc} {ls : Array Slot} (hf : f_M_sumsTold_53b  k53 x1 σ = some σ2) (w : Wd g (wM g q) A s σ H locs) (hl : lv_has ls 3 [(0, .ref (q 0)), (1, .int x1)]) : WK p l e s m av below meth c 5 g (wM g q) A none σ2 H locs (F0 m 53 ls []) := by
  obtain ⟨hx, hb, hml, hown, hts, hK, hA, hZ, hlocks, hr, hN⟩ := id C
  unfold f_M_sumsTold_53b at hf
  refine lv_aload_n hx hb d_M_sumsTold_53 rfl (lv_at hl 0 rfl) ?_
  refine mg_0_bad C w k1099 d_M_sumsTold_54 ?_
  refine lv_if_ne (tgt := 78) hx hb d_M_sumsTold_57 (by decide) (fun cd => ?_) (fun cd => ?_)
  · have hf := if_e cd hf
    exact t_M_sumsTold_78 C  hf w (lv_sub hl [0, 1] rfl)
  · have hf := it_e cd hf
    refine lv_aload_n hx hb d_M_sumsTold_60 rfl (lv_at hl 0 rfl) ?_
    refine mg_0_waits C w k1141 d_M_sumsTold_61 ?_
    refine lv_aload_n hx hb d_M_sumsTold_64 rfl (lv_at hl 0 rfl) ?_
    refine mg_0_base C w k1145 d_M_sumsTold_65 ?_
    refine lv_icmp_le (tgt := 78) hx hb d_M_sumsTold_68 (by decide) (fun cd => ?_) (fun cd => ?_)
    · have hf := it_e cd hf
      exact t_M_sumsTold_78 C  hf w (lv_sub hl [0, 1] rfl)
    · have hf := if_e cd hf
      refine lv_aload_n hx hb d_M_sumsTold_71 rfl (lv_at hl 0 rfl) ?_
      obtain ⟨σ_2, h_1, hf⟩ := bp_e hf
      refine k_callV (As := []) (rest := []) C w (c_M_drops (q := q) h_1) cv_M_drops k1473 (mr_0 C w) (by decide) hl.1 rfl (Nat.le_of_ble_eq_true rfl) d_M_sumsTold_72 (fun H locs w => ?_)
      show WK p l e s m av below meth c 5 g (wM g q) A none σ2 H locs (F0 m 75 ls [])
      refine lv_goto (tgt := 53) hx hb d_M_sumsTold_75 (by decide) ?_
      exact hk53 x1 σ_2 _ _ _ hf w (lv_sub hl [0, 1] rfl)
set_option maxHeartbeats 4000000 in
set_option maxRecDepth 20000 in
theorem t_M_sumsTold_53 {σ2 : St} (C : Cx g A p s m av meth c prog_13_method_36_code 3 "BellHammerModel" none)  : ∀ (n : Nat) (x1 : Int32) (σ : St) (H : Heap) (locs : List Loc) (ls : Array Slot), f_M_sumsTold_53   n x1 σ = some σ2 → Wd g (wM g q) A s σ H locs → lv_has ls 3 [(0, .ref (q 0)), (1, .int x1)] → WK p l e s m av below meth c 5 g (wM g q) A none σ2 H locs (F0 m 53 ls []) := by
  intro n
  induction n with
  | zero => intro x1 σ H locs ls hf; exact absurd hf (by intro z; cases z)
  | succ n ih => intro x1 σ H locs ls hf w hl; exact t_M_sumsTold_53b C  ih hf w hl
set_option maxHeartbeats 4000000 in
set_option maxRecDepth 20000 in
theorem t_M_sumsTold_15b {σ2 : St} (C : Cx g A p s m av meth c prog_13_method_36_code 3 "BellHammerModel" none) {k15 : Int32 → Int32 → St → Option (St)} (hk15 : ∀ (x1 : Int32) (x2 : Int32) (σ : St) (H : Heap) (locs : List Loc) (ls : Array Slot), k15 x1 x2 σ = some σ2 → Wd g (wM g q) A s σ H locs → lv_has ls 3 [(0, .ref (q 0)), (1, .int x1), (2, .int x2)] → WK p l e s m av below meth c 5 g (wM g q) A none σ2 H locs (F0 m 15 ls []))  {x1 : Int32} {x2 : Int32} {σ : St} {H : Heap} {locs : List Loc} {ls : Array Slot} (hf : f_M_sumsTold_15b  k15 x1 x2 σ = some σ2) (w : Wd g (wM g q) A s σ H locs) (hl : lv_has ls 3 [(0, .ref (q 0)), (1, .int x1), (2, .int x2)]) : WK p l e s m av below meth c 5 g (wM g q) A none σ2 H locs (F0 m 15 ls []) := by
  obtain ⟨hx, hb, hml, hown, hts, hK, hA, hZ, hlocks, hr, hN⟩ := id C
  unfold f_M_sumsTold_15b at hf
  refine lv_iload_n hx hb d_M_sumsTold_15 rfl (lv_at hl 2 rfl) ?_
  refine lv_if_eq (tgt := 53) hx hb d_M_sumsTold_16 (by decide) (fun cd => ?_) (fun cd => ?_)
  · have hf := it_e cd hf
    exact t_M_sumsTold_53 C  FU x1 σ _ _ _ hf w (lv_sub hl [0, 1] rfl)
  · have hf := if_e cd hf
    refine lv_aload_n hx hb d_M_sumsTold_19 rfl (lv_at hl 0 rfl) ?_
    refine mg_0_bad C w k1099 d_M_sumsTold_20 ?_
    refine lv_if_ne (tgt := 53) hx hb d_M_sumsTold_23 (by decide) (fun cd => ?_) (fun cd => ?_)
    · have hf := if_e cd hf
      exact t_M_sumsTold_53 C  FU x1 σ _ _ _ hf w (lv_sub hl [0, 1] rfl)
    · have hf := it_e cd hf
      refine lv_aload_n hx hb d_M_sumsTold_26 rfl (lv_at hl 0 rfl) ?_
      obtain ⟨σ_2, h_1, hf⟩ := bp_e hf
      refine k_callV (As := []) (rest := []) C w (c_M_onePart (q := q) h_1) cv_M_onePart k1445 (mr_0 C w) (by decide) hl.1 rfl (Nat.le_of_ble_eq_true rfl) d_M_sumsTold_27 (fun H locs w => ?_)
      show WK p l e s m av below meth c 5 g (wM g q) A none σ2 H locs (F0 m 30 ls [])
      refine lv_aload_n hx hb d_M_sumsTold_30 rfl (lv_at hl 0 rfl) ?_
      refine mg_0_bad C w k1099 d_M_sumsTold_31 ?_
      refine lv_if_ne (tgt := 48) hx hb d_M_sumsTold_34 (by decide) (fun cd => ?_) (fun cd => ?_)
      · have hf := if_e cd hf
        refine lv_iconst (v := 0) hx hb d_M_sumsTold_48 (by decide) ?_
        refine lv_istore_n (lv' := [(2, .int 0), (0, .ref (q 0)), (1, .int x1)]) hx hb d_M_sumsTold_49 rfl hl (by decide) rfl (fun ls hl => ?_)
        refine lv_goto (tgt := 15) hx hb d_M_sumsTold_50 (by decide) ?_
        exact hk15 x1 0 σ_2 _ _ _ hf w (lv_sub hl [1, 2, 0] rfl)
      · have hf := it_e cd hf
        refine lv_aload_n hx hb d_M_sumsTold_37 rfl (lv_at hl 0 rfl) ?_
        obtain ⟨r_4, σ_5, h_3, hf⟩ := bd_e hf
        refine k_callV (As := []) (rest := []) C w (c_M_goesOn (q := q) h_3) cv_M_goesOn k1457 (mr_0 C w) (by decide) hl.1 rfl (Nat.le_of_ble_eq_true rfl) d_M_sumsTold_38 (fun H locs w => ?_)
        show WK p l e s m av below meth c 5 g (wM g q) A none σ2 H locs (F0 m 41 ls [.int r_4])
        refine lv_if_eq (tgt := 48) hx hb d_M_sumsTold_41 (by decide) (fun cd => ?_) (fun cd => ?_)
        · have hf := it_e cd hf
          refine lv_iconst (v := 0) hx hb d_M_sumsTold_48 (by decide) ?_
          refine lv_istore_n (lv' := [(2, .int 0), (0, .ref (q 0)), (1, .int x1)]) hx hb d_M_sumsTold_49 rfl hl (by decide) rfl (fun ls hl => ?_)
          refine lv_goto (tgt := 15) hx hb d_M_sumsTold_50 (by decide) ?_
          exact hk15 x1 0 σ_5 _ _ _ hf w (lv_sub hl [1, 2, 0] rfl)
        · have hf := if_e cd hf
          refine lv_iconst (v := 1) hx hb d_M_sumsTold_44 (by decide) ?_
          refine lv_goto (tgt := 49) hx hb d_M_sumsTold_45 (by decide) ?_
          refine lv_istore_n (lv' := [(2, .int 1), (0, .ref (q 0)), (1, .int x1)]) hx hb d_M_sumsTold_49 rfl hl (by decide) rfl (fun ls hl => ?_)
          refine lv_goto (tgt := 15) hx hb d_M_sumsTold_50 (by decide) ?_
          exact hk15 x1 1 σ_5 _ _ _ hf w (lv_sub hl [1, 2, 0] rfl)
set_option maxHeartbeats 4000000 in
set_option maxRecDepth 20000 in
theorem t_M_sumsTold_15 {σ2 : St} (C : Cx g A p s m av meth c prog_13_method_36_code 3 "BellHammerModel" none)  : ∀ (n : Nat) (x1 : Int32) (x2 : Int32) (σ : St) (H : Heap) (locs : List Loc) (ls : Array Slot), f_M_sumsTold_15   n x1 x2 σ = some σ2 → Wd g (wM g q) A s σ H locs → lv_has ls 3 [(0, .ref (q 0)), (1, .int x1), (2, .int x2)] → WK p l e s m av below meth c 5 g (wM g q) A none σ2 H locs (F0 m 15 ls []) := by
  intro n
  induction n with
  | zero => intro x1 x2 σ H locs ls hf; exact absurd hf (by intro z; cases z)
  | succ n ih => intro x1 x2 σ H locs ls hf w hl; exact t_M_sumsTold_15b C  ih hf w hl
set_option maxHeartbeats 4000000 in
set_option maxRecDepth 20000 in
theorem c_M_sumsTold {l : Launch} {g : GX} {q : Nat → Nat}  {σ : St} {σ2 : St} (hf : f_M_sumsTold   σ = some σ2) : KK l y_M_sumsTold prog_13_method_36_code 3 none 5 g (wM g q) σ [.ref (q 0)] none (wM g q) σ2 := by
  refine KK_of (plainFor_of_name (by decide)) (Nat.le_of_ble_eq_true rfl) (fun p e s m below meth c A ls C w hl => ?_)
  have hl : lv_has ls 3 [(0, .ref (q 0))] := hl
  obtain ⟨hx, hb, hml, hown, hts, hK, hA, hZ, hlocks, hr, hN⟩ := id C
  unfold f_M_sumsTold at hf
  refine lv_aload_n hx hb d_M_sumsTold_0 rfl (lv_at hl 0 rfl) ?_
  refine mg_0_base C w k1145 d_M_sumsTold_1 ?_
  refine lv_topi (fun x_1 ex_1 => ?_)
  have hf := lt_e ex_1 hf
  refine lv_istore_n (lv' := [(1, .int x_1), (0, .ref (q 0))]) hx hb d_M_sumsTold_4 rfl hl (by decide) rfl (fun ls hl => ?_)
  refine lv_aload_n hx hb d_M_sumsTold_5 rfl (lv_at hl 1 rfl) ?_
  refine lv_aload_n hx hb d_M_sumsTold_6 rfl (lv_at hl 1 rfl) ?_
  refine mg_0_waits C w k1141 d_M_sumsTold_7 ?_
  refine mp_0_base C w k1145 d_M_sumsTold_10 (fun σ_2 H locs eσ_2 w => ?_)
  have hf := lt_e eσ_2 hf
  refine lv_iconst (v := 1) hx hb d_M_sumsTold_13 (by decide) ?_
  refine lv_istore_n (lv' := [(2, .int 1), (1, .int x_1), (0, .ref (q 0))]) hx hb d_M_sumsTold_14 rfl hl (by decide) rfl (fun ls hl => ?_)
  exact t_M_sumsTold_15 C  FU x_1 1 σ_2 _ _ _ hf w (lv_sub hl [2, 1, 0] rfl)
def f_M_fact_102 (t0 : Int32) (σ : St) : Option (St) :=
  bp (f_M_code t0 σ) fun σ_2 =>
  some σ_2
def f_M_fact_63 (x1 : Int32) (σ : St) : Option (St) :=
  lt (uI σ 1 ((sI σ 1) + 1)) fun σ_1 =>
  bp (f_M_sumsTold σ_1) fun σ_3 =>
  if x1 = 60 then
    f_M_fact_102 13 σ_3
  else
    if x1 = 62 then
      f_M_fact_102 14 σ_3
    else
      f_M_fact_102 15 σ_3
def f_M_fact (σ : St) : Option (St) :=
  bd (f_M_takes 24 σ) fun r_2 σ_3 =>
  if r_2 = 0 then
    bp (f_M_sumsTold σ_3) fun σ_5 =>
    if (sI σ_5 4) = 0 then
      bd (f_M_look σ_5) fun r_7 σ_8 =>
      if r_7 = 60 then
        f_M_fact_63 r_7 σ_8
      else
        if r_7 = 62 then
          f_M_fact_63 r_7 σ_8
        else
          if r_7 = 61 then
            f_M_fact_63 r_7 σ_8
          else
            bp (f_M_fail 1 (sI σ_8 1) σ_8) fun σ_10 =>
            some σ_10
    else
      some σ_5
  else
    bp (f_M_code 19 σ_3) fun σ_12 =>
    some σ_12
set_option maxHeartbeats 4000000 in
set_option maxRecDepth 20000 in
theorem t_M_fact_102 {σ2 : St} (C : Cx g A p s m av meth c prog_13_method_37_code 2 "BellHammerModel" none)  {t0 : Int32} {σ : St} {H : Heap} {locs : List Loc} {ls : Array Slot} (hf : f_M_fact_102   t0 σ = some σ2) (w : Wd g (wM g q) A s σ H locs) (hl : lv_has ls 2 []) : WK p l e s m av below meth c 6 g (wM g q) A none σ2 H locs (F0 m 102 ls [.int t0, .ref (q 0)]) := by
  obtain ⟨hx, hb, hml, hown, hts, hK, hA, hZ, hlocks, hr, hN⟩ := id C
  unfold f_M_fact_102 at hf
  obtain ⟨σ_2, h_1, hf⟩ := bp_e hf
  refine k_callV (As := [.int t0]) (rest := []) C w (c_M_code (q := q) h_1) cv_M_code k1437 (mr_0 C w) (by decide) hl.1 rfl (Nat.le_of_ble_eq_true rfl) d_M_fact_102 (fun H locs w => ?_)
  show WK p l e s m av below meth c 6 g (wM g q) A none σ2 H locs (F0 m 105 ls [])
  cases some_e hf
  exact k_vret C w d_M_fact_105
set_option maxHeartbeats 4000000 in
set_option maxRecDepth 20000 in
theorem t_M_fact_63 {σ2 : St} (C : Cx g A p s m av meth c prog_13_method_37_code 2 "BellHammerModel" none)  {x1 : Int32} {σ : St} {H : Heap} {locs : List Loc} {ls : Array Slot} (hf : f_M_fact_63   x1 σ = some σ2) (w : Wd g (wM g q) A s σ H locs) (hl : lv_has ls 2 [(0, .ref (q 0)), (1, .int x1)]) : WK p l e s m av below meth c 6 g (wM g q) A none σ2 H locs (F0 m 63 ls []) := by
  obtain ⟨hx, hb, hml, hown, hts, hK, hA, hZ, hlocks, hr, hN⟩ := id C
  unfold f_M_fact_63 at hf
  refine lv_aload_n hx hb d_M_fact_63 rfl (lv_at hl 0 rfl) ?_
  refine lv_dup hx hb d_M_fact_64 rfl ?_
  refine mg_0_at C w k1096 d_M_fact_65 ?_
  refine lv_iconst (v := 1) hx hb d_M_fact_68 (by decide) ?_
  refine lv_iadd hx hb d_M_fact_69 ?_
  refine mp_0_at C w k1096 d_M_fact_70 (fun σ_1 H locs eσ_1 w => ?_)
  have hf := lt_e eσ_1 hf
  refine lv_aload_n hx hb d_M_fact_73 rfl (lv_at hl 0 rfl) ?_
  obtain ⟨σ_3, h_2, hf⟩ := bp_e hf
  refine k_callV (As := []) (rest := []) C w (c_M_sumsTold (q := q) h_2) cv_M_sumsTold k1441 (mr_0 C w) (by decide) hl.1 rfl (Nat.le_of_ble_eq_true rfl) d_M_fact_74 (fun H locs w => ?_)
  show WK p l e s m av below meth c 6 g (wM g q) A none σ2 H locs (F0 m 77 ls [])
  refine lv_aload_n hx hb d_M_fact_77 rfl (lv_at hl 0 rfl) ?_
  refine lv_iload_n hx hb d_M_fact_78 rfl (lv_at hl 1 rfl) ?_
  refine lv_bipush (v := 60) hx hb d_M_fact_79 (by decide) ?_
  refine lv_icmp_ne (tgt := 89) hx hb d_M_fact_81 (by decide) (fun cd => ?_) (fun cd => ?_)
  · have hf := if_e cd hf
    refine lv_iload_n hx hb d_M_fact_89 rfl (lv_at hl 1 rfl) ?_
    refine lv_bipush (v := 62) hx hb d_M_fact_90 (by decide) ?_
    refine lv_icmp_ne (tgt := 100) hx hb d_M_fact_92 (by decide) (fun cd => ?_) (fun cd => ?_)
    · have hf := if_e cd hf
      refine lv_bipush (v := 15) hx hb d_M_fact_100 (by decide) ?_
      exact t_M_fact_102 C  hf w (lv_sub hl [] rfl)
    · have hf := it_e cd hf
      refine lv_bipush (v := 14) hx hb d_M_fact_95 (by decide) ?_
      refine lv_goto (tgt := 102) hx hb d_M_fact_97 (by decide) ?_
      exact t_M_fact_102 C  hf w (lv_sub hl [] rfl)
  · have hf := it_e cd hf
    refine lv_bipush (v := 13) hx hb d_M_fact_84 (by decide) ?_
    refine lv_goto (tgt := 102) hx hb d_M_fact_86 (by decide) ?_
    exact t_M_fact_102 C  hf w (lv_sub hl [] rfl)
set_option maxHeartbeats 4000000 in
set_option maxRecDepth 20000 in
theorem c_M_fact {l : Launch} {g : GX} {q : Nat → Nat}  {σ : St} {σ2 : St} (hf : f_M_fact   σ = some σ2) : KK l y_M_fact prog_13_method_37_code 2 none 6 g (wM g q) σ [.ref (q 0)] none (wM g q) σ2 := by
  refine KK_of (plainFor_of_name (by decide)) (Nat.le_of_ble_eq_true rfl) (fun p e s m below meth c A ls C w hl => ?_)
  have hl : lv_has ls 2 [(0, .ref (q 0))] := hl
  obtain ⟨hx, hb, hml, hown, hts, hK, hA, hZ, hlocks, hr, hN⟩ := id C
  unfold f_M_fact at hf
  refine lv_aload_n hx hb d_M_fact_0 rfl (lv_at hl 0 rfl) ?_
  refine lv_aload_n hx hb d_M_fact_1 rfl (lv_at hl 0 rfl) ?_
  refine mg_0_allWord C w k1128 d_M_fact_2 ?_
  obtain ⟨r_2, σ_3, h_1, hf⟩ := bd_e hf
  refine k_callV (As := [.ref (q (1 + 24))]) (rest := []) C w (c_M_takes (q := q) (j := 24) (by decide) h_1) cv_M_takes k1366 (mr_0 C w) (by decide) hl.1 rfl (Nat.le_of_ble_eq_true rfl) d_M_fact_5 (fun H locs w => ?_)
  show WK p l e s m _ below meth c 6 g (wM g q) A none σ2 H locs (F0 m 8 ls [.int r_2])
  refine lv_if_eq (tgt := 18) hx hb d_M_fact_8 (by decide) (fun cd => ?_) (fun cd => ?_)
  · have hf := it_e cd hf
    refine lv_aload_n hx hb d_M_fact_18 rfl (lv_at hl 0 rfl) ?_
    obtain ⟨σ_5, h_4, hf⟩ := bp_e hf
    refine k_callV (As := []) (rest := []) C w (c_M_sumsTold (q := q) h_4) cv_M_sumsTold k1441 (mr_0 C w) (by decide) hl.1 rfl (Nat.le_of_ble_eq_true rfl) d_M_fact_19 (fun H locs w => ?_)
    show WK p l e s m _ below meth c 6 g (wM g q) A none σ2 H locs (F0 m 22 ls [])
    refine lv_aload_n hx hb d_M_fact_22 rfl (lv_at hl 0 rfl) ?_
    refine mg_0_bad C w k1099 d_M_fact_23 ?_
    refine lv_if_eq (tgt := 30) hx hb d_M_fact_26 (by decide) (fun cd => ?_) (fun cd => ?_)
    · have hf := it_e cd hf
      refine lv_aload_n hx hb d_M_fact_30 rfl (lv_at hl 0 rfl) ?_
      obtain ⟨r_7, σ_8, h_6, hf⟩ := bd_e hf
      refine k_callV (As := []) (rest := []) C w (c_M_look (q := q) h_6) cv_M_look k1354 (mr_0 C w) (by decide) hl.1 rfl (Nat.le_of_ble_eq_true rfl) d_M_fact_31 (fun H locs w => ?_)
      show WK p l e s m _ below meth c 6 g (wM g q) A none σ2 H locs (F0 m 34 ls [.int r_7])
      refine lv_istore_n (lv' := [(1, .int r_7), (0, .ref (q 0))]) hx hb d_M_fact_34 rfl hl (by decide) rfl (fun ls hl => ?_)
      refine lv_iload_n hx hb d_M_fact_35 rfl (lv_at hl 0 rfl) ?_
      refine lv_bipush (v := 60) hx hb d_M_fact_36 (by decide) ?_
      refine lv_icmp_eq (tgt := 63) hx hb d_M_fact_38 (by decide) (fun cd => ?_) (fun cd => ?_)
      · have hf := it_e cd hf
        exact t_M_fact_63 C  hf w (lv_sub hl [1, 0] rfl)
      · have hf := if_e cd hf
        refine lv_iload_n hx hb d_M_fact_41 rfl (lv_at hl 0 rfl) ?_
        refine lv_bipush (v := 62) hx hb d_M_fact_42 (by decide) ?_
        refine lv_icmp_eq (tgt := 63) hx hb d_M_fact_44 (by decide) (fun cd => ?_) (fun cd => ?_)
        · have hf := it_e cd hf
          exact t_M_fact_63 C  hf w (lv_sub hl [1, 0] rfl)
        · have hf := if_e cd hf
          refine lv_iload_n hx hb d_M_fact_47 rfl (lv_at hl 0 rfl) ?_
          refine lv_bipush (v := 61) hx hb d_M_fact_48 (by decide) ?_
          refine lv_icmp_eq (tgt := 63) hx hb d_M_fact_50 (by decide) (fun cd => ?_) (fun cd => ?_)
          · have hf := it_e cd hf
            exact t_M_fact_63 C  hf w (lv_sub hl [1, 0] rfl)
          · have hf := if_e cd hf
            refine lv_aload_n hx hb d_M_fact_53 rfl (lv_at hl 1 rfl) ?_
            refine lv_iconst (v := 1) hx hb d_M_fact_54 (by decide) ?_
            refine lv_aload_n hx hb d_M_fact_55 rfl (lv_at hl 1 rfl) ?_
            refine mg_0_at C w k1096 d_M_fact_56 ?_
            obtain ⟨σ_10, h_9, hf⟩ := bp_e hf
            refine k_callV (As := [.int 1, .int (sI σ_8 1)]) (rest := []) C w (c_M_fail (q := q) h_9) cv_M_fail k1362 (mr_0 C w) (by decide) hl.1 rfl (Nat.le_of_ble_eq_true rfl) d_M_fact_59 (fun H locs w => ?_)
            show WK p l e s m _ below meth c 6 g (wM g q) A none σ2 H locs (F0 m 62 ls [])
            cases some_e hf
            exact k_vret C w d_M_fact_62
    · have hf := if_e cd hf
      cases some_e hf
      exact k_vret C w d_M_fact_29
  · have hf := if_e cd hf
    refine lv_aload_n hx hb d_M_fact_11 rfl (lv_at hl 0 rfl) ?_
    refine lv_bipush (v := 19) hx hb d_M_fact_12 (by decide) ?_
    obtain ⟨σ_12, h_11, hf⟩ := bp_e hf
    refine k_callV (As := [.int 19]) (rest := []) C w (c_M_code (q := q) h_11) cv_M_code k1437 (mr_0 C w) (by decide) hl.1 rfl (Nat.le_of_ble_eq_true rfl) d_M_fact_14 (fun H locs w => ?_)
    show WK p l e s m _ below meth c 6 g (wM g q) A none σ2 H locs (F0 m 17 ls [])
    cases some_e hf
    exact k_vret C w d_M_fact_17
def f_M_dropsNots_0b (k0 : St → Option (St)) (σ : St) : Option (St) :=
  if (sI σ 4) = 0 then
    bp (f_M_isOn 18 σ) fun r_2 =>
    if r_2 = 0 then
      some σ
    else
      lt (uI σ 12 ((sI σ 12) - 1)) fun σ_3 =>
      bp (f_M_drops σ_3) fun σ_5 =>
      k0 σ_5
  else
    some σ
def f_M_dropsNots_0 : Nat → St → Option (St)
  | 0 => fun  _ => none
  | n + 1 => f_M_dropsNots_0b   (f_M_dropsNots_0   n)
def f_M_dropsNots (σ : St) : Option (St) :=
  f_M_dropsNots_0 FU σ
set_option maxHeartbeats 4000000 in
set_option maxRecDepth 20000 in
theorem t_M_dropsNots_0b {σ2 : St} (C : Cx g A p s m av meth c prog_13_method_39_code 1 "BellHammerModel" none) {k0 : St → Option (St)} (hk0 : ∀  (σ : St) (H : Heap) (locs : List Loc) (ls : Array Slot), k0  σ = some σ2 → Wd g (wM g q) A s σ H locs → lv_has ls 1 [(0, .ref (q 0))] → WK p l e s m av below meth c 2 g (wM g q) A none σ2 H locs (F0 m 0 ls []))  {σ : St} {H : Heap} {locs : List Loc} {ls : Array Slot} (hf : f_M_dropsNots_0b  k0  σ = some σ2) (w : Wd g (wM g q) A s σ H locs) (hl : lv_has ls 1 [(0, .ref (q 0))]) : WK p l e s m av below meth c 2 g (wM g q) A none σ2 H locs (F0 m 0 ls []) := by
  obtain ⟨hx, hb, hml, hown, hts, hK, hA, hZ, hlocks, hr, hN⟩ := id C
  unfold f_M_dropsNots_0b at hf
  refine lv_aload_n hx hb d_M_dropsNots_0 rfl (lv_at hl 0 rfl) ?_
  refine mg_0_bad C w k1099 d_M_dropsNots_1 ?_
  refine lv_if_ne (tgt := 33) hx hb d_M_dropsNots_4 (by decide) (fun cd => ?_) (fun cd => ?_)
  · have hf := if_e cd hf
    cases some_e hf
    exact k_vret C w d_M_dropsNots_33
  · have hf := it_e cd hf
    refine lv_aload_n hx hb d_M_dropsNots_7 rfl (lv_at hl 0 rfl) ?_
    refine lv_bipush (v := 18) hx hb d_M_dropsNots_8 (by decide) ?_
    obtain ⟨r_2, h_1, hf⟩ := bp_e hf
    refine k_callV (As := [.int 18]) (rest := []) C w (c_M_isOn (q := q) h_1) cv_M_isOn k1477 (mr_0 C w) (by decide) hl.1 rfl (Nat.le_of_ble_eq_true rfl) d_M_dropsNots_10 (fun H locs w => ?_)
    show WK p l e s m av below meth c 2 g (wM g q) A none σ2 H locs (F0 m 13 ls [.int r_2])
    refine lv_if_eq (tgt := 33) hx hb d_M_dropsNots_13 (by decide) (fun cd => ?_) (fun cd => ?_)
    · have hf := it_e cd hf
      cases some_e hf
      exact k_vret C w d_M_dropsNots_33
    · have hf := if_e cd hf
      refine lv_aload_n hx hb d_M_dropsNots_16 rfl (lv_at hl 0 rfl) ?_
      refine lv_dup hx hb d_M_dropsNots_17 rfl ?_
      refine mg_0_open C w k1142 d_M_dropsNots_18 ?_
      refine lv_iconst (v := 1) hx hb d_M_dropsNots_21 (by decide) ?_
      refine lv_isub hx hb d_M_dropsNots_22 ?_
      refine mp_0_open C w k1142 d_M_dropsNots_23 (fun σ_3 H locs eσ_3 w => ?_)
      have hf := lt_e eσ_3 hf
      refine lv_aload_n hx hb d_M_dropsNots_26 rfl (lv_at hl 0 rfl) ?_
      obtain ⟨σ_5, h_4, hf⟩ := bp_e hf
      refine k_callV (As := []) (rest := []) C w (c_M_drops (q := q) h_4) cv_M_drops k1473 (mr_0 C w) (by decide) hl.1 rfl (Nat.le_of_ble_eq_true rfl) d_M_dropsNots_27 (fun H locs w => ?_)
      show WK p l e s m av below meth c 2 g (wM g q) A none σ2 H locs (F0 m 30 ls [])
      refine lv_goto (tgt := 0) hx hb d_M_dropsNots_30 (by decide) ?_
      exact hk0  σ_5 _ _ _ hf w (lv_sub hl [0] rfl)
set_option maxHeartbeats 4000000 in
set_option maxRecDepth 20000 in
theorem t_M_dropsNots_0 {σ2 : St} (C : Cx g A p s m av meth c prog_13_method_39_code 1 "BellHammerModel" none)  : ∀ (n : Nat)  (σ : St) (H : Heap) (locs : List Loc) (ls : Array Slot), f_M_dropsNots_0   n  σ = some σ2 → Wd g (wM g q) A s σ H locs → lv_has ls 1 [(0, .ref (q 0))] → WK p l e s m av below meth c 2 g (wM g q) A none σ2 H locs (F0 m 0 ls []) := by
  intro n
  induction n with
  | zero => intro  σ H locs ls hf; exact absurd hf (by intro z; cases z)
  | succ n ih => intro  σ H locs ls hf w hl; exact t_M_dropsNots_0b C  ih hf w hl
set_option maxHeartbeats 4000000 in
set_option maxRecDepth 20000 in
theorem c_M_dropsNots {l : Launch} {g : GX} {q : Nat → Nat}  {σ : St} {σ2 : St} (hf : f_M_dropsNots   σ = some σ2) : KK l y_M_dropsNots prog_13_method_39_code 1 none 2 g (wM g q) σ [.ref (q 0)] none (wM g q) σ2 := by
  refine KK_of (plainFor_of_name (by decide)) (Nat.le_of_ble_eq_true rfl) (fun p e s m below meth c A ls C w hl => ?_)
  have hl : lv_has ls 1 [(0, .ref (q 0))] := hl
  obtain ⟨hx, hb, hml, hown, hts, hK, hA, hZ, hlocks, hr, hN⟩ := id C
  unfold f_M_dropsNots at hf
  exact t_M_dropsNots_0 C  FU  σ _ _ _ hf w (lv_sub hl [0] rfl)
def f_M_hasSquare_2b (k2 : Int32 → St → Option (Int32)) (x1 : Int32) (σ : St) : Option (Int32) :=
  if (sI σ 11) ≤ x1 then
    some 0
  else
    gd (inB x1 1700) <|
    if (sA σ 7 x1.toNatClampNeg) = 25 then
      some 1
    else
      lt ((x1 + 1)) fun x_2 =>
      k2 x_2 σ
def f_M_hasSquare_2 : Nat → Int32 → St → Option (Int32)
  | 0 => fun _ _ => none
  | n + 1 => f_M_hasSquare_2b   (f_M_hasSquare_2   n)
def f_M_hasSquare (σ : St) : Option (Int32) :=
  f_M_hasSquare_2 FU 0 σ
set_option maxHeartbeats 4000000 in
set_option maxRecDepth 20000 in
theorem t_M_hasSquare_2b {r : Int32} {σ : St} (C : Cx g A p s m av meth c prog_13_method_38_code 2 "BellHammerModel" (some .boolean)) {k2 : Int32 → St → Option (Int32)} (hk2 : ∀ (x1 : Int32) (H : Heap) (locs : List Loc) (ls : Array Slot), k2 x1 σ = some r → Wd g (wM g q) A s σ H locs → lv_has ls 2 [(0, .ref (q 0)), (1, .int x1)] → WK p l e s m av below meth c 0 g (wM g q) A (some (.int r)) σ H locs (F0 m 2 ls []))  {x1 : Int32} {H : Heap} {locs : List Loc} {ls : Array Slot} (hf : f_M_hasSquare_2b  k2 x1 σ = some r) (w : Wd g (wM g q) A s σ H locs) (hl : lv_has ls 2 [(0, .ref (q 0)), (1, .int x1)]) : WK p l e s m av below meth c 0 g (wM g q) A (some (.int r)) σ H locs (F0 m 2 ls []) := by
  obtain ⟨hx, hb, hml, hown, hts, hK, hA, hZ, hlocks, hr, hN⟩ := id C
  unfold f_M_hasSquare_2b at hf
  refine lv_iload_n hx hb d_M_hasSquare_2 rfl (lv_at hl 1 rfl) ?_
  refine lv_aload_n hx hb d_M_hasSquare_3 rfl (lv_at hl 0 rfl) ?_
  refine mg_0_waits C w k1141 d_M_hasSquare_4 ?_
  refine lv_icmp_ge (tgt := 29) hx hb d_M_hasSquare_7 (by decide) (fun cd => ?_) (fun cd => ?_)
  · have hf := it_e cd hf
    refine lv_iconst (v := 0) hx hb d_M_hasSquare_29 (by decide) ?_
    cases some_e hf
    exact k_zret C w (by decide) d_M_hasSquare_30
  · have hf := if_e cd hf
    refine lv_aload_n hx hb d_M_hasSquare_10 rfl (lv_at hl 0 rfl) ?_
    refine mg_0_wait C w k1140 d_M_hasSquare_11 ?_
    refine lv_iload_n hx hb d_M_hasSquare_14 rfl (lv_at hl 1 rfl) ?_
    obtain ⟨g_1, hf⟩ := gd_e hf
    refine ml_36 C w g_1 d_M_hasSquare_15 ?_
    refine lv_bipush (v := 25) hx hb d_M_hasSquare_16 (by decide) ?_
    refine lv_icmp_ne (tgt := 23) hx hb d_M_hasSquare_18 (by decide) (fun cd => ?_) (fun cd => ?_)
    · have hf := if_e cd hf
      obtain ⟨x_2, ex_2⟩ : ∃ y : Int32, y = (x1 + 1) := ⟨_, rfl⟩
      have hf := lt_e ex_2 hf
      refine lv_iinc (v := x_2) (lv' := [(1, .int x_2), (0, .ref (q 0))]) hx hb d_M_hasSquare_23 hl (k := 1) rfl (by rw [ex_2]; rfl) (by decide) rfl (fun ls hl => ?_)
      refine lv_goto (tgt := 2) hx hb d_M_hasSquare_26 (by decide) ?_
      exact hk2 x_2  _ _ _ hf w (lv_sub hl [1, 0] rfl)
    · have hf := it_e cd hf
      refine lv_iconst (v := 1) hx hb d_M_hasSquare_21 (by decide) ?_
      cases some_e hf
      exact k_zret C w (by decide) d_M_hasSquare_22
set_option maxHeartbeats 4000000 in
set_option maxRecDepth 20000 in
theorem t_M_hasSquare_2 {r : Int32} {σ : St} (C : Cx g A p s m av meth c prog_13_method_38_code 2 "BellHammerModel" (some .boolean))  : ∀ (n : Nat) (x1 : Int32) (H : Heap) (locs : List Loc) (ls : Array Slot), f_M_hasSquare_2   n x1 σ = some r → Wd g (wM g q) A s σ H locs → lv_has ls 2 [(0, .ref (q 0)), (1, .int x1)] → WK p l e s m av below meth c 0 g (wM g q) A (some (.int r)) σ H locs (F0 m 2 ls []) := by
  intro n
  induction n with
  | zero => intro x1 H locs ls hf; exact absurd hf (by intro z; cases z)
  | succ n ih => intro x1 H locs ls hf w hl; exact t_M_hasSquare_2b C  ih hf w hl
set_option maxHeartbeats 4000000 in
set_option maxRecDepth 20000 in
theorem c_M_hasSquare {l : Launch} {g : GX} {q : Nat → Nat}  {σ : St} {r : Int32} (hf : f_M_hasSquare   σ = some r) : KK l y_M_hasSquare prog_13_method_38_code 2 (some .boolean) 0 g (wM g q) σ [.ref (q 0)] (some (.int r)) (wM g q) σ := by
  refine KK_of (plainFor_of_name (by decide)) (Nat.le_of_ble_eq_true rfl) (fun p e s m below meth c A ls C w hl => ?_)
  have hl : lv_has ls 2 [(0, .ref (q 0))] := hl
  obtain ⟨hx, hb, hml, hown, hts, hK, hA, hZ, hlocks, hr, hN⟩ := id C
  unfold f_M_hasSquare at hf
  refine lv_iconst (v := 0) hx hb d_M_hasSquare_0 (by decide) ?_
  refine lv_istore_n (lv' := [(1, .int 0), (0, .ref (q 0))]) hx hb d_M_hasSquare_1 rfl hl (by decide) rfl (fun ls hl => ?_)
  exact t_M_hasSquare_2 C  FU 0  _ _ _ hf w (lv_sub hl [1, 0] rfl)
def f_M_goesOnTest_155 (k137 : St → Option (Int32 × St)) (σ : St) : Option (Int32 × St) :=
  bp (f_M_drops σ) fun σ_2 =>
  k137 σ_2
def f_M_goesOnTest_137b (k137 : St → Option (Int32 × St)) (σ : St) : Option (Int32 × St) :=
  bp (f_M_isOn 16 σ) fun r_2 =>
  if r_2 = 0 then
    bp (f_M_isOn 17 σ) fun r_4 =>
    if r_4 = 0 then
      gd (inB (sI σ 11) 1700) <|
      lt (uA σ 7 (upd (sA σ 7) (sI σ 11).toNatClampNeg 17)) fun σ_6 =>
      lt (uI σ_6 11 ((sI σ_6 11) + 1)) fun σ_7 =>
      some (1, σ_7)
    else
      f_M_goesOnTest_155 k137 σ
  else
    f_M_goesOnTest_155 k137 σ
def f_M_goesOnTest_137 : Nat → St → Option (Int32 × St)
  | 0 => fun  _ => none
  | n + 1 => f_M_goesOnTest_137b   (f_M_goesOnTest_137   n)
def f_M_goesOnTest_87b (k87 : St → Option (Int32 × St)) (σ : St) : Option (Int32 × St) :=
  bp (f_M_isOn 16 σ) fun r_2 =>
  if r_2 = 0 then
    gd (inB (sI σ 11) 1700) <|
    lt (uA σ 7 (upd (sA σ 7) (sI σ 11).toNatClampNeg 16)) fun σ_4 =>
    lt (uI σ_4 11 ((sI σ_4 11) + 1)) fun σ_5 =>
    some (1, σ_5)
  else
    bp (f_M_drops σ) fun σ_7 =>
    k87 σ_7
def f_M_goesOnTest_87 : Nat → St → Option (Int32 × St)
  | 0 => fun  _ => none
  | n + 1 => f_M_goesOnTest_87b   (f_M_goesOnTest_87   n)
def f_M_goesOnTest_76 (σ : St) : Option (Int32 × St) :=
  bd (f_M_takes 22 σ) fun r_2 σ_3 =>
  if r_2 = 0 then
    bd (f_M_takes 21 σ_3) fun r_5 σ_6 =>
    if r_5 = 0 then
      if (sI σ_6 4) = 0 then
        bp (f_M_hasSquare σ_6) fun r_8 =>
        if r_8 = 0 then
          some (0, σ_6)
        else
          bp (f_M_fail 1 (sI σ_6 1) σ_6) fun σ_10 =>
          some (0, σ_10)
      else
        some (0, σ_6)
    else
      f_M_goesOnTest_137 FU σ_6
  else
    f_M_goesOnTest_87 FU σ_3
def f_M_goesOnTest_33b (k0 : St → Option (Int32 × St)) (k33 : St → Option (Int32 × St)) (σ : St) : Option (Int32 × St) :=
  bp (f_M_isOn 25 σ) fun r_2 =>
  if r_2 = 0 then
    bp (f_M_drops σ) fun σ_8 =>
    k33 σ_8
  else
    lt (uI σ 11 ((sI σ 11) - 1)) fun σ_3 =>
    lt (uI σ_3 12 ((sI σ_3 12) - 1)) fun σ_4 =>
    bp (f_M_dropsNots σ_4) fun σ_6 =>
    k0 σ_6
def f_M_goesOnTest_33 (k0 : St → Option (Int32 × St)) : Nat → St → Option (Int32 × St)
  | 0 => fun  _ => none
  | n + 1 => f_M_goesOnTest_33b  k0 (f_M_goesOnTest_33  k0 n)
def f_M_goesOnTest_0b (k0 : St → Option (Int32 × St)) (σ : St) : Option (Int32 × St) :=
  if (sI σ 4) = 0 then
    bd (f_M_look σ) fun r_2 σ_3 =>
    if r_2 = 93 then
      bp (f_M_hasSquare σ_3) fun r_5 =>
      if r_5 = 0 then
        f_M_goesOnTest_76 σ_3
      else
        lt (uI σ_3 1 ((sI σ_3 1) + 1)) fun σ_6 =>
        f_M_goesOnTest_33 k0 FU σ_6
    else
      f_M_goesOnTest_76 σ_3
  else
    f_M_goesOnTest_76 σ
def f_M_goesOnTest_0 : Nat → St → Option (Int32 × St)
  | 0 => fun  _ => none
  | n + 1 => f_M_goesOnTest_0b   (f_M_goesOnTest_0   n)
def f_M_goesOnTest (σ : St) : Option (Int32 × St) :=
  f_M_goesOnTest_0 FU σ
set_option maxHeartbeats 4000000 in
set_option maxRecDepth 20000 in
theorem t_M_goesOnTest_155 {r : Int32} {σ2 : St} (C : Cx g A p s m av meth c prog_13_method_41_code 1 "BellHammerModel" (some .boolean)) {k137 : St → Option (Int32 × St)} (hk137 : ∀  (σ : St) (H : Heap) (locs : List Loc) (ls : Array Slot), k137  σ = some (r, σ2) → Wd g (wM g q) A s σ H locs → lv_has ls 1 [(0, .ref (q 0))] → WK p l e s m av below meth c 3 g (wM g q) A (some (.int r)) σ2 H locs (F0 m 137 ls []))  {σ : St} {H : Heap} {locs : List Loc} {ls : Array Slot} (hf : f_M_goesOnTest_155  k137  σ = some (r, σ2)) (w : Wd g (wM g q) A s σ H locs) (hl : lv_has ls 1 [(0, .ref (q 0))]) : WK p l e s m av below meth c 3 g (wM g q) A (some (.int r)) σ2 H locs (F0 m 155 ls []) := by
  obtain ⟨hx, hb, hml, hown, hts, hK, hA, hZ, hlocks, hr, hN⟩ := id C
  unfold f_M_goesOnTest_155 at hf
  refine lv_aload_n hx hb d_M_goesOnTest_155 rfl (lv_at hl 0 rfl) ?_
  obtain ⟨σ_2, h_1, hf⟩ := bp_e hf
  refine k_callV (As := []) (rest := []) C w (c_M_drops (q := q) h_1) cv_M_drops k1473 (mr_0 C w) (by decide) hl.1 rfl (Nat.le_of_ble_eq_true rfl) d_M_goesOnTest_156 (fun H locs w => ?_)
  show WK p l e s m av below meth c 3 g (wM g q) A (some (.int r)) σ2 H locs (F0 m 159 ls [])
  refine lv_goto (tgt := 137) hx hb d_M_goesOnTest_159 (by decide) ?_
  exact hk137  σ_2 _ _ _ hf w (lv_sub hl [0] rfl)
set_option maxHeartbeats 4000000 in
set_option maxRecDepth 20000 in
theorem t_M_goesOnTest_137b {r : Int32} {σ2 : St} (C : Cx g A p s m av meth c prog_13_method_41_code 1 "BellHammerModel" (some .boolean)) {k137 : St → Option (Int32 × St)} (hk137 : ∀  (σ : St) (H : Heap) (locs : List Loc) (ls : Array Slot), k137  σ = some (r, σ2) → Wd g (wM g q) A s σ H locs → lv_has ls 1 [(0, .ref (q 0))] → WK p l e s m av below meth c 3 g (wM g q) A (some (.int r)) σ2 H locs (F0 m 137 ls []))  {σ : St} {H : Heap} {locs : List Loc} {ls : Array Slot} (hf : f_M_goesOnTest_137b  k137  σ = some (r, σ2)) (w : Wd g (wM g q) A s σ H locs) (hl : lv_has ls 1 [(0, .ref (q 0))]) : WK p l e s m av below meth c 3 g (wM g q) A (some (.int r)) σ2 H locs (F0 m 137 ls []) := by
  obtain ⟨hx, hb, hml, hown, hts, hK, hA, hZ, hlocks, hr, hN⟩ := id C
  unfold f_M_goesOnTest_137b at hf
  refine lv_aload_n hx hb d_M_goesOnTest_137 rfl (lv_at hl 0 rfl) ?_
  refine lv_bipush (v := 16) hx hb d_M_goesOnTest_138 (by decide) ?_
  obtain ⟨r_2, h_1, hf⟩ := bp_e hf
  refine k_callV (As := [.int 16]) (rest := []) C w (c_M_isOn (q := q) h_1) cv_M_isOn k1477 (mr_0 C w) (by decide) hl.1 rfl (Nat.le_of_ble_eq_true rfl) d_M_goesOnTest_140 (fun H locs w => ?_)
  show WK p l e s m av below meth c 3 g (wM g q) A (some (.int r)) σ2 H locs (F0 m 143 ls [.int r_2])
  refine lv_if_ne (tgt := 155) hx hb d_M_goesOnTest_143 (by decide) (fun cd => ?_) (fun cd => ?_)
  · have hf := if_e cd hf
    exact t_M_goesOnTest_155 C hk137 hf w (lv_sub hl [0] rfl)
  · have hf := it_e cd hf
    refine lv_aload_n hx hb d_M_goesOnTest_146 rfl (lv_at hl 0 rfl) ?_
    refine lv_bipush (v := 17) hx hb d_M_goesOnTest_147 (by decide) ?_
    obtain ⟨r_4, h_3, hf⟩ := bp_e hf
    refine k_callV (As := [.int 17]) (rest := []) C w (c_M_isOn (q := q) h_3) cv_M_isOn k1477 (mr_0 C w) (by decide) hl.1 rfl (Nat.le_of_ble_eq_true rfl) d_M_goesOnTest_149 (fun H locs w => ?_)
    show WK p l e s m av below meth c 3 g (wM g q) A (some (.int r)) σ2 H locs (F0 m 152 ls [.int r_4])
    refine lv_if_eq (tgt := 162) hx hb d_M_goesOnTest_152 (by decide) (fun cd => ?_) (fun cd => ?_)
    · have hf := it_e cd hf
      refine lv_aload_n hx hb d_M_goesOnTest_162 rfl (lv_at hl 0 rfl) ?_
      refine mg_0_wait C w k1140 d_M_goesOnTest_163 ?_
      refine lv_aload_n hx hb d_M_goesOnTest_166 rfl (lv_at hl 0 rfl) ?_
      refine mg_0_waits C w k1141 d_M_goesOnTest_167 ?_
      refine lv_bipush (v := 17) hx hb d_M_goesOnTest_170 (by decide) ?_
      obtain ⟨g_5, hf⟩ := gd_e hf
      refine ms_36 C w g_5 d_M_goesOnTest_172 (fun σ_6 H locs eσ_6 w => ?_)
      have hf := lt_e eσ_6 hf
      refine lv_aload_n hx hb d_M_goesOnTest_173 rfl (lv_at hl 0 rfl) ?_
      refine lv_dup hx hb d_M_goesOnTest_174 rfl ?_
      refine mg_0_waits C w k1141 d_M_goesOnTest_175 ?_
      refine lv_iconst (v := 1) hx hb d_M_goesOnTest_178 (by decide) ?_
      refine lv_iadd hx hb d_M_goesOnTest_179 ?_
      refine mp_0_waits C w k1141 d_M_goesOnTest_180 (fun σ_7 H locs eσ_7 w => ?_)
      have hf := lt_e eσ_7 hf
      refine lv_iconst (v := 1) hx hb d_M_goesOnTest_183 (by decide) ?_
      obtain ⟨rfl, rfl⟩ := some2_e hf
      exact k_zret C w (by decide) d_M_goesOnTest_184
    · have hf := if_e cd hf
      exact t_M_goesOnTest_155 C hk137 hf w (lv_sub hl [0] rfl)
set_option maxHeartbeats 4000000 in
set_option maxRecDepth 20000 in
theorem t_M_goesOnTest_137 {r : Int32} {σ2 : St} (C : Cx g A p s m av meth c prog_13_method_41_code 1 "BellHammerModel" (some .boolean))  : ∀ (n : Nat)  (σ : St) (H : Heap) (locs : List Loc) (ls : Array Slot), f_M_goesOnTest_137   n  σ = some (r, σ2) → Wd g (wM g q) A s σ H locs → lv_has ls 1 [(0, .ref (q 0))] → WK p l e s m av below meth c 3 g (wM g q) A (some (.int r)) σ2 H locs (F0 m 137 ls []) := by
  intro n
  induction n with
  | zero => intro  σ H locs ls hf; exact absurd hf (by intro z; cases z)
  | succ n ih => intro  σ H locs ls hf w hl; exact t_M_goesOnTest_137b C  ih hf w hl
set_option maxHeartbeats 4000000 in
set_option maxRecDepth 20000 in
theorem t_M_goesOnTest_87b {r : Int32} {σ2 : St} (C : Cx g A p s m av meth c prog_13_method_41_code 1 "BellHammerModel" (some .boolean)) {k87 : St → Option (Int32 × St)} (hk87 : ∀  (σ : St) (H : Heap) (locs : List Loc) (ls : Array Slot), k87  σ = some (r, σ2) → Wd g (wM g q) A s σ H locs → lv_has ls 1 [(0, .ref (q 0))] → WK p l e s m av below meth c 3 g (wM g q) A (some (.int r)) σ2 H locs (F0 m 87 ls []))  {σ : St} {H : Heap} {locs : List Loc} {ls : Array Slot} (hf : f_M_goesOnTest_87b  k87  σ = some (r, σ2)) (w : Wd g (wM g q) A s σ H locs) (hl : lv_has ls 1 [(0, .ref (q 0))]) : WK p l e s m av below meth c 3 g (wM g q) A (some (.int r)) σ2 H locs (F0 m 87 ls []) := by
  obtain ⟨hx, hb, hml, hown, hts, hK, hA, hZ, hlocks, hr, hN⟩ := id C
  unfold f_M_goesOnTest_87b at hf
  refine lv_aload_n hx hb d_M_goesOnTest_87 rfl (lv_at hl 0 rfl) ?_
  refine lv_bipush (v := 16) hx hb d_M_goesOnTest_88 (by decide) ?_
  obtain ⟨r_2, h_1, hf⟩ := bp_e hf
  refine k_callV (As := [.int 16]) (rest := []) C w (c_M_isOn (q := q) h_1) cv_M_isOn k1477 (mr_0 C w) (by decide) hl.1 rfl (Nat.le_of_ble_eq_true rfl) d_M_goesOnTest_90 (fun H locs w => ?_)
  show WK p l e s m av below meth c 3 g (wM g q) A (some (.int r)) σ2 H locs (F0 m 93 ls [.int r_2])
  refine lv_if_eq (tgt := 103) hx hb d_M_goesOnTest_93 (by decide) (fun cd => ?_) (fun cd => ?_)
  · have hf := it_e cd hf
    refine lv_aload_n hx hb d_M_goesOnTest_103 rfl (lv_at hl 0 rfl) ?_
    refine mg_0_wait C w k1140 d_M_goesOnTest_104 ?_
    refine lv_aload_n hx hb d_M_goesOnTest_107 rfl (lv_at hl 0 rfl) ?_
    refine mg_0_waits C w k1141 d_M_goesOnTest_108 ?_
    refine lv_bipush (v := 16) hx hb d_M_goesOnTest_111 (by decide) ?_
    obtain ⟨g_3, hf⟩ := gd_e hf
    refine ms_36 C w g_3 d_M_goesOnTest_113 (fun σ_4 H locs eσ_4 w => ?_)
    have hf := lt_e eσ_4 hf
    refine lv_aload_n hx hb d_M_goesOnTest_114 rfl (lv_at hl 0 rfl) ?_
    refine lv_dup hx hb d_M_goesOnTest_115 rfl ?_
    refine mg_0_waits C w k1141 d_M_goesOnTest_116 ?_
    refine lv_iconst (v := 1) hx hb d_M_goesOnTest_119 (by decide) ?_
    refine lv_iadd hx hb d_M_goesOnTest_120 ?_
    refine mp_0_waits C w k1141 d_M_goesOnTest_121 (fun σ_5 H locs eσ_5 w => ?_)
    have hf := lt_e eσ_5 hf
    refine lv_iconst (v := 1) hx hb d_M_goesOnTest_124 (by decide) ?_
    obtain ⟨rfl, rfl⟩ := some2_e hf
    exact k_zret C w (by decide) d_M_goesOnTest_125
  · have hf := if_e cd hf
    refine lv_aload_n hx hb d_M_goesOnTest_96 rfl (lv_at hl 0 rfl) ?_
    obtain ⟨σ_7, h_6, hf⟩ := bp_e hf
    refine k_callV (As := []) (rest := []) C w (c_M_drops (q := q) h_6) cv_M_drops k1473 (mr_0 C w) (by decide) hl.1 rfl (Nat.le_of_ble_eq_true rfl) d_M_goesOnTest_97 (fun H locs w => ?_)
    show WK p l e s m av below meth c 3 g (wM g q) A (some (.int r)) σ2 H locs (F0 m 100 ls [])
    refine lv_goto (tgt := 87) hx hb d_M_goesOnTest_100 (by decide) ?_
    exact hk87  σ_7 _ _ _ hf w (lv_sub hl [0] rfl)
set_option maxHeartbeats 4000000 in
set_option maxRecDepth 20000 in
theorem t_M_goesOnTest_87 {r : Int32} {σ2 : St} (C : Cx g A p s m av meth c prog_13_method_41_code 1 "BellHammerModel" (some .boolean))  : ∀ (n : Nat)  (σ : St) (H : Heap) (locs : List Loc) (ls : Array Slot), f_M_goesOnTest_87   n  σ = some (r, σ2) → Wd g (wM g q) A s σ H locs → lv_has ls 1 [(0, .ref (q 0))] → WK p l e s m av below meth c 3 g (wM g q) A (some (.int r)) σ2 H locs (F0 m 87 ls []) := by
  intro n
  induction n with
  | zero => intro  σ H locs ls hf; exact absurd hf (by intro z; cases z)
  | succ n ih => intro  σ H locs ls hf w hl; exact t_M_goesOnTest_87b C  ih hf w hl
set_option maxHeartbeats 4000000 in
set_option maxRecDepth 20000 in
theorem t_M_goesOnTest_76 {r : Int32} {σ2 : St} (C : Cx g A p s m av meth c prog_13_method_41_code 1 "BellHammerModel" (some .boolean))  {σ : St} {H : Heap} {locs : List Loc} {ls : Array Slot} (hf : f_M_goesOnTest_76    σ = some (r, σ2)) (w : Wd g (wM g q) A s σ H locs) (hl : lv_has ls 1 [(0, .ref (q 0))]) : WK p l e s m av below meth c 3 g (wM g q) A (some (.int r)) σ2 H locs (F0 m 76 ls []) := by
  obtain ⟨hx, hb, hml, hown, hts, hK, hA, hZ, hlocks, hr, hN⟩ := id C
  unfold f_M_goesOnTest_76 at hf
  refine lv_aload_n hx hb d_M_goesOnTest_76 rfl (lv_at hl 0 rfl) ?_
  refine lv_aload_n hx hb d_M_goesOnTest_77 rfl (lv_at hl 0 rfl) ?_
  refine mg_0_andWord C w k1126 d_M_goesOnTest_78 ?_
  obtain ⟨r_2, σ_3, h_1, hf⟩ := bd_e hf
  refine k_callV (As := [.ref (q (1 + 22))]) (rest := []) C w (c_M_takes (q := q) (j := 22) (by decide) h_1) cv_M_takes k1366 (mr_0 C w) (by decide) hl.1 rfl (Nat.le_of_ble_eq_true rfl) d_M_goesOnTest_81 (fun H locs w => ?_)
  show WK p l e s m av below meth c 3 g (wM g q) A (some (.int r)) σ2 H locs (F0 m 84 ls [.int r_2])
  refine lv_if_eq (tgt := 126) hx hb d_M_goesOnTest_84 (by decide) (fun cd => ?_) (fun cd => ?_)
  · have hf := it_e cd hf
    refine lv_aload_n hx hb d_M_goesOnTest_126 rfl (lv_at hl 0 rfl) ?_
    refine lv_aload_n hx hb d_M_goesOnTest_127 rfl (lv_at hl 0 rfl) ?_
    refine mg_0_orWord C w k1125 d_M_goesOnTest_128 ?_
    obtain ⟨r_5, σ_6, h_4, hf⟩ := bd_e hf
    refine k_callV (As := [.ref (q (1 + 21))]) (rest := []) C w (c_M_takes (q := q) (j := 21) (by decide) h_4) cv_M_takes k1366 (mr_0 C w) (by decide) hl.1 rfl (Nat.le_of_ble_eq_true rfl) d_M_goesOnTest_131 (fun H locs w => ?_)
    show WK p l e s m av below meth c 3 g (wM g q) A (some (.int r)) σ2 H locs (F0 m 134 ls [.int r_5])
    refine lv_if_eq (tgt := 185) hx hb d_M_goesOnTest_134 (by decide) (fun cd => ?_) (fun cd => ?_)
    · have hf := it_e cd hf
      refine lv_aload_n hx hb d_M_goesOnTest_185 rfl (lv_at hl 0 rfl) ?_
      refine mg_0_bad C w k1099 d_M_goesOnTest_186 ?_
      refine lv_if_ne (tgt := 208) hx hb d_M_goesOnTest_189 (by decide) (fun cd => ?_) (fun cd => ?_)
      · have hf := if_e cd hf
        refine lv_iconst (v := 0) hx hb d_M_goesOnTest_208 (by decide) ?_
        obtain ⟨rfl, rfl⟩ := some2_e hf
        exact k_zret C w (by decide) d_M_goesOnTest_209
      · have hf := it_e cd hf
        refine lv_aload_n hx hb d_M_goesOnTest_192 rfl (lv_at hl 0 rfl) ?_
        obtain ⟨r_8, h_7, hf⟩ := bp_e hf
        refine k_callV (As := []) (rest := []) C w (c_M_hasSquare (q := q) h_7) cv_M_hasSquare k1489 (mr_0 C w) (by decide) hl.1 rfl (Nat.le_of_ble_eq_true rfl) d_M_goesOnTest_193 (fun H locs w => ?_)
        show WK p l e s m av below meth c 3 g (wM g q) A (some (.int r)) σ2 H locs (F0 m 196 ls [.int r_8])
        refine lv_if_eq (tgt := 208) hx hb d_M_goesOnTest_196 (by decide) (fun cd => ?_) (fun cd => ?_)
        · have hf := it_e cd hf
          refine lv_iconst (v := 0) hx hb d_M_goesOnTest_208 (by decide) ?_
          obtain ⟨rfl, rfl⟩ := some2_e hf
          exact k_zret C w (by decide) d_M_goesOnTest_209
        · have hf := if_e cd hf
          refine lv_aload_n hx hb d_M_goesOnTest_199 rfl (lv_at hl 0 rfl) ?_
          refine lv_iconst (v := 1) hx hb d_M_goesOnTest_200 (by decide) ?_
          refine lv_aload_n hx hb d_M_goesOnTest_201 rfl (lv_at hl 0 rfl) ?_
          refine mg_0_at C w k1096 d_M_goesOnTest_202 ?_
          obtain ⟨σ_10, h_9, hf⟩ := bp_e hf
          refine k_callV (As := [.int 1, .int (sI σ_6 1)]) (rest := []) C w (c_M_fail (q := q) h_9) cv_M_fail k1362 (mr_0 C w) (by decide) hl.1 rfl (Nat.le_of_ble_eq_true rfl) d_M_goesOnTest_205 (fun H locs w => ?_)
          show WK p l e s m av below meth c 3 g (wM g q) A (some (.int r)) σ2 H locs (F0 m 208 ls [])
          refine lv_iconst (v := 0) hx hb d_M_goesOnTest_208 (by decide) ?_
          obtain ⟨rfl, rfl⟩ := some2_e hf
          exact k_zret C w (by decide) d_M_goesOnTest_209
    · have hf := if_e cd hf
      exact t_M_goesOnTest_137 C  FU  σ_6 _ _ _ hf w (lv_sub hl [0] rfl)
  · have hf := if_e cd hf
    exact t_M_goesOnTest_87 C  FU  σ_3 _ _ _ hf w (lv_sub hl [0] rfl)
set_option maxHeartbeats 4000000 in
set_option maxRecDepth 20000 in
theorem t_M_goesOnTest_33b {r : Int32} {σ2 : St} (C : Cx g A p s m av meth c prog_13_method_41_code 1 "BellHammerModel" (some .boolean)) {k0 : St → Option (Int32 × St)} (hk0 : ∀  (σ : St) (H : Heap) (locs : List Loc) (ls : Array Slot), k0  σ = some (r, σ2) → Wd g (wM g q) A s σ H locs → lv_has ls 1 [(0, .ref (q 0))] → WK p l e s m av below meth c 3 g (wM g q) A (some (.int r)) σ2 H locs (F0 m 0 ls [])) {k33 : St → Option (Int32 × St)} (hk33 : ∀  (σ : St) (H : Heap) (locs : List Loc) (ls : Array Slot), k33  σ = some (r, σ2) → Wd g (wM g q) A s σ H locs → lv_has ls 1 [(0, .ref (q 0))] → WK p l e s m av below meth c 3 g (wM g q) A (some (.int r)) σ2 H locs (F0 m 33 ls []))  {σ : St} {H : Heap} {locs : List Loc} {ls : Array Slot} (hf : f_M_goesOnTest_33b  k0 k33  σ = some (r, σ2)) (w : Wd g (wM g q) A s σ H locs) (hl : lv_has ls 1 [(0, .ref (q 0))]) : WK p l e s m av below meth c 3 g (wM g q) A (some (.int r)) σ2 H locs (F0 m 33 ls []) := by
  obtain ⟨hx, hb, hml, hown, hts, hK, hA, hZ, hlocks, hr, hN⟩ := id C
  unfold f_M_goesOnTest_33b at hf
  refine lv_aload_n hx hb d_M_goesOnTest_33 rfl (lv_at hl 0 rfl) ?_
  refine lv_bipush (v := 25) hx hb d_M_goesOnTest_34 (by decide) ?_
  obtain ⟨r_2, h_1, hf⟩ := bp_e hf
  refine k_callV (As := [.int 25]) (rest := []) C w (c_M_isOn (q := q) h_1) cv_M_isOn k1477 (mr_0 C w) (by decide) hl.1 rfl (Nat.le_of_ble_eq_true rfl) d_M_goesOnTest_36 (fun H locs w => ?_)
  show WK p l e s m av below meth c 3 g (wM g q) A (some (.int r)) σ2 H locs (F0 m 39 ls [.int r_2])
  refine lv_if_ne (tgt := 49) hx hb d_M_goesOnTest_39 (by decide) (fun cd => ?_) (fun cd => ?_)
  · have hf := if_e cd hf
    refine lv_aload_n hx hb d_M_goesOnTest_49 rfl (lv_at hl 0 rfl) ?_
    refine lv_dup hx hb d_M_goesOnTest_50 rfl ?_
    refine mg_0_waits C w k1141 d_M_goesOnTest_51 ?_
    refine lv_iconst (v := 1) hx hb d_M_goesOnTest_54 (by decide) ?_
    refine lv_isub hx hb d_M_goesOnTest_55 ?_
    refine mp_0_waits C w k1141 d_M_goesOnTest_56 (fun σ_3 H locs eσ_3 w => ?_)
    have hf := lt_e eσ_3 hf
    refine lv_aload_n hx hb d_M_goesOnTest_59 rfl (lv_at hl 0 rfl) ?_
    refine lv_dup hx hb d_M_goesOnTest_60 rfl ?_
    refine mg_0_open C w k1142 d_M_goesOnTest_61 ?_
    refine lv_iconst (v := 1) hx hb d_M_goesOnTest_64 (by decide) ?_
    refine lv_isub hx hb d_M_goesOnTest_65 ?_
    refine mp_0_open C w k1142 d_M_goesOnTest_66 (fun σ_4 H locs eσ_4 w => ?_)
    have hf := lt_e eσ_4 hf
    refine lv_aload_n hx hb d_M_goesOnTest_69 rfl (lv_at hl 0 rfl) ?_
    obtain ⟨σ_6, h_5, hf⟩ := bp_e hf
    refine k_callV (As := []) (rest := []) C w (c_M_dropsNots (q := q) h_5) cv_M_dropsNots k1481 (mr_0 C w) (by decide) hl.1 rfl (Nat.le_of_ble_eq_true rfl) d_M_goesOnTest_70 (fun H locs w => ?_)
    show WK p l e s m av below meth c 3 g (wM g q) A (some (.int r)) σ2 H locs (F0 m 73 ls [])
    refine lv_goto (tgt := 0) hx hb d_M_goesOnTest_73 (by decide) ?_
    exact hk0  σ_6 _ _ _ hf w (lv_sub hl [0] rfl)
  · have hf := it_e cd hf
    refine lv_aload_n hx hb d_M_goesOnTest_42 rfl (lv_at hl 0 rfl) ?_
    obtain ⟨σ_8, h_7, hf⟩ := bp_e hf
    refine k_callV (As := []) (rest := []) C w (c_M_drops (q := q) h_7) cv_M_drops k1473 (mr_0 C w) (by decide) hl.1 rfl (Nat.le_of_ble_eq_true rfl) d_M_goesOnTest_43 (fun H locs w => ?_)
    show WK p l e s m av below meth c 3 g (wM g q) A (some (.int r)) σ2 H locs (F0 m 46 ls [])
    refine lv_goto (tgt := 33) hx hb d_M_goesOnTest_46 (by decide) ?_
    exact hk33  σ_8 _ _ _ hf w (lv_sub hl [0] rfl)
set_option maxHeartbeats 4000000 in
set_option maxRecDepth 20000 in
theorem t_M_goesOnTest_33 {r : Int32} {σ2 : St} (C : Cx g A p s m av meth c prog_13_method_41_code 1 "BellHammerModel" (some .boolean)) {k0 : St → Option (Int32 × St)} (hk0 : ∀  (σ : St) (H : Heap) (locs : List Loc) (ls : Array Slot), k0  σ = some (r, σ2) → Wd g (wM g q) A s σ H locs → lv_has ls 1 [(0, .ref (q 0))] → WK p l e s m av below meth c 3 g (wM g q) A (some (.int r)) σ2 H locs (F0 m 0 ls []))  : ∀ (n : Nat)  (σ : St) (H : Heap) (locs : List Loc) (ls : Array Slot), f_M_goesOnTest_33  k0 n  σ = some (r, σ2) → Wd g (wM g q) A s σ H locs → lv_has ls 1 [(0, .ref (q 0))] → WK p l e s m av below meth c 3 g (wM g q) A (some (.int r)) σ2 H locs (F0 m 33 ls []) := by
  intro n
  induction n with
  | zero => intro  σ H locs ls hf; exact absurd hf (by intro z; cases z)
  | succ n ih => intro  σ H locs ls hf w hl; exact t_M_goesOnTest_33b C hk0 ih hf w hl
set_option maxHeartbeats 4000000 in
set_option maxRecDepth 20000 in
theorem t_M_goesOnTest_0b {r : Int32} {σ2 : St} (C : Cx g A p s m av meth c prog_13_method_41_code 1 "BellHammerModel" (some .boolean)) {k0 : St → Option (Int32 × St)} (hk0 : ∀  (σ : St) (H : Heap) (locs : List Loc) (ls : Array Slot), k0  σ = some (r, σ2) → Wd g (wM g q) A s σ H locs → lv_has ls 1 [(0, .ref (q 0))] → WK p l e s m av below meth c 3 g (wM g q) A (some (.int r)) σ2 H locs (F0 m 0 ls []))  {σ : St} {H : Heap} {locs : List Loc} {ls : Array Slot} (hf : f_M_goesOnTest_0b  k0  σ = some (r, σ2)) (w : Wd g (wM g q) A s σ H locs) (hl : lv_has ls 1 [(0, .ref (q 0))]) : WK p l e s m av below meth c 3 g (wM g q) A (some (.int r)) σ2 H locs (F0 m 0 ls []) := by
  obtain ⟨hx, hb, hml, hown, hts, hK, hA, hZ, hlocks, hr, hN⟩ := id C
  unfold f_M_goesOnTest_0b at hf
  refine lv_aload_n hx hb d_M_goesOnTest_0 rfl (lv_at hl 0 rfl) ?_
  refine mg_0_bad C w k1099 d_M_goesOnTest_1 ?_
  refine lv_if_ne (tgt := 76) hx hb d_M_goesOnTest_4 (by decide) (fun cd => ?_) (fun cd => ?_)
  · have hf := if_e cd hf
    exact t_M_goesOnTest_76 C  hf w (lv_sub hl [0] rfl)
  · have hf := it_e cd hf
    refine lv_aload_n hx hb d_M_goesOnTest_7 rfl (lv_at hl 0 rfl) ?_
    obtain ⟨r_2, σ_3, h_1, hf⟩ := bd_e hf
    refine k_callV (As := []) (rest := []) C w (c_M_look (q := q) h_1) cv_M_look k1354 (mr_0 C w) (by decide) hl.1 rfl (Nat.le_of_ble_eq_true rfl) d_M_goesOnTest_8 (fun H locs w => ?_)
    show WK p l e s m av below meth c 3 g (wM g q) A (some (.int r)) σ2 H locs (F0 m 11 ls [.int r_2])
    refine lv_bipush (v := 93) hx hb d_M_goesOnTest_11 (by decide) ?_
    refine lv_icmp_ne (tgt := 76) hx hb d_M_goesOnTest_13 (by decide) (fun cd => ?_) (fun cd => ?_)
    · have hf := if_e cd hf
      exact t_M_goesOnTest_76 C  hf w (lv_sub hl [0] rfl)
    · have hf := it_e cd hf
      refine lv_aload_n hx hb d_M_goesOnTest_16 rfl (lv_at hl 0 rfl) ?_
      obtain ⟨r_5, h_4, hf⟩ := bp_e hf
      refine k_callV (As := []) (rest := []) C w (c_M_hasSquare (q := q) h_4) cv_M_hasSquare k1489 (mr_0 C w) (by decide) hl.1 rfl (Nat.le_of_ble_eq_true rfl) d_M_goesOnTest_17 (fun H locs w => ?_)
      show WK p l e s m av below meth c 3 g (wM g q) A (some (.int r)) σ2 H locs (F0 m 20 ls [.int r_5])
      refine lv_if_eq (tgt := 76) hx hb d_M_goesOnTest_20 (by decide) (fun cd => ?_) (fun cd => ?_)
      · have hf := it_e cd hf
        exact t_M_goesOnTest_76 C  hf w (lv_sub hl [0] rfl)
      · have hf := if_e cd hf
        refine lv_aload_n hx hb d_M_goesOnTest_23 rfl (lv_at hl 0 rfl) ?_
        refine lv_dup hx hb d_M_goesOnTest_24 rfl ?_
        refine mg_0_at C w k1096 d_M_goesOnTest_25 ?_
        refine lv_iconst (v := 1) hx hb d_M_goesOnTest_28 (by decide) ?_
        refine lv_iadd hx hb d_M_goesOnTest_29 ?_
        refine mp_0_at C w k1096 d_M_goesOnTest_30 (fun σ_6 H locs eσ_6 w => ?_)
        have hf := lt_e eσ_6 hf
        exact t_M_goesOnTest_33 C hk0 FU  σ_6 _ _ _ hf w (lv_sub hl [0] rfl)
set_option maxHeartbeats 4000000 in
set_option maxRecDepth 20000 in
theorem t_M_goesOnTest_0 {r : Int32} {σ2 : St} (C : Cx g A p s m av meth c prog_13_method_41_code 1 "BellHammerModel" (some .boolean))  : ∀ (n : Nat)  (σ : St) (H : Heap) (locs : List Loc) (ls : Array Slot), f_M_goesOnTest_0   n  σ = some (r, σ2) → Wd g (wM g q) A s σ H locs → lv_has ls 1 [(0, .ref (q 0))] → WK p l e s m av below meth c 3 g (wM g q) A (some (.int r)) σ2 H locs (F0 m 0 ls []) := by
  intro n
  induction n with
  | zero => intro  σ H locs ls hf; exact absurd hf (by intro z; cases z)
  | succ n ih => intro  σ H locs ls hf w hl; exact t_M_goesOnTest_0b C  ih hf w hl
set_option maxHeartbeats 4000000 in
set_option maxRecDepth 20000 in
theorem c_M_goesOnTest {l : Launch} {g : GX} {q : Nat → Nat}  {σ : St} {r : Int32} {σ2 : St} (hf : f_M_goesOnTest   σ = some (r, σ2)) : KK l y_M_goesOnTest prog_13_method_41_code 1 (some .boolean) 3 g (wM g q) σ [.ref (q 0)] (some (.int r)) (wM g q) σ2 := by
  refine KK_of (plainFor_of_name (by decide)) (Nat.le_of_ble_eq_true rfl) (fun p e s m below meth c A ls C w hl => ?_)
  have hl : lv_has ls 1 [(0, .ref (q 0))] := hl
  obtain ⟨hx, hb, hml, hown, hts, hK, hA, hZ, hlocks, hr, hN⟩ := id C
  unfold f_M_goesOnTest at hf
  exact t_M_goesOnTest_0 C  FU  σ _ _ _ hf w (lv_sub hl [0] rfl)
