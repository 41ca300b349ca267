variable {p : Program} {l : Launch} {e : Env} {s : State} {m : MethodId} {av : Array Value} {below : List Frame} {meth : Method} {c : Code} {g : GX} {q : Nat → Nat} {A : Nat → Prop}
theorem d_Tree_goOn_0 : decode prog_9_method_6_code 0 = .ok (.iload_n 3, 1) := by decide +kernel
theorem d_Tree_goOn_1 : decode prog_9_method_6_code 1 = .ok (.iconst 4, 1) := by decide +kernel
theorem d_Tree_goOn_2 : decode prog_9_method_6_code 2 = .ok (.if_icmp .ge 16, 3) := by decide +kernel
theorem d_Tree_goOn_5 : decode prog_9_method_6_code 5 = .ok (.aload_n 0, 1) := by decide +kernel
theorem d_Tree_goOn_6 : decode prog_9_method_6_code 6 = .ok (.getfield 14, 3) := by decide +kernel
theorem d_Tree_goOn_9 : decode prog_9_method_6_code 9 = .ok (.iload_n 3, 1) := by decide +kernel
theorem d_Tree_goOn_10 : decode prog_9_method_6_code 10 = .ok (.iload 5, 2) := by decide +kernel
theorem d_Tree_goOn_12 : decode prog_9_method_6_code 12 = .ok (.invokevirtual 77, 3) := by decide +kernel
theorem d_Tree_goOn_15 : decode prog_9_method_6_code 15 = .ok (.ifCond .ne 43, 3) := by decide +kernel
theorem d_Tree_goOn_18 : decode prog_9_method_6_code 18 = .ok (.aload_n 0, 1) := by decide +kernel
theorem d_Tree_goOn_19 : decode prog_9_method_6_code 19 = .ok (.aload_n 0, 1) := by decide +kernel
theorem d_Tree_goOn_20 : decode prog_9_method_6_code 20 = .ok (.getfield 51, 3) := by decide +kernel
theorem d_Tree_goOn_23 : decode prog_9_method_6_code 23 = .ok (.iload_n 3, 1) := by decide +kernel
theorem d_Tree_goOn_24 : decode prog_9_method_6_code 24 = .ok (.invokestatic 81, 3) := by decide +kernel
theorem d_Tree_goOn_27 : decode prog_9_method_6_code 27 = .ok (.putfield 51, 3) := by decide +kernel
theorem d_Tree_goOn_30 : decode prog_9_method_6_code 30 = .ok (.aload_n 0, 1) := by decide +kernel
theorem d_Tree_goOn_31 : decode prog_9_method_6_code 31 = .ok (.aload_n 0, 1) := by decide +kernel
theorem d_Tree_goOn_32 : decode prog_9_method_6_code 32 = .ok (.getfield 54, 3) := by decide +kernel
theorem d_Tree_goOn_35 : decode prog_9_method_6_code 35 = .ok (.iload_n 3, 1) := by decide +kernel
theorem d_Tree_goOn_36 : decode prog_9_method_6_code 36 = .ok (.invokestatic 87, 3) := by decide +kernel
theorem d_Tree_goOn_39 : decode prog_9_method_6_code 39 = .ok (.putfield 54, 3) := by decide +kernel
theorem d_Tree_goOn_42 : decode prog_9_method_6_code 42 = .ok (.aload_n 0, 1) := by decide +kernel
theorem d_Tree_goOn_43 : decode prog_9_method_6_code 43 = .ok (.dup, 1) := by decide +kernel
theorem d_Tree_goOn_44 : decode prog_9_method_6_code 44 = .ok (.getfield 60, 3) := by decide +kernel
theorem d_Tree_goOn_47 : decode prog_9_method_6_code 47 = .ok (.lload 6, 2) := by decide +kernel
theorem d_Tree_goOn_49 : decode prog_9_method_6_code 49 = .ok (.iload 4, 2) := by decide +kernel
theorem d_Tree_goOn_51 : decode prog_9_method_6_code 51 = .ok (.i2l, 1) := by decide +kernel
theorem d_Tree_goOn_52 : decode prog_9_method_6_code 52 = .ok (.lmul, 1) := by decide +kernel
theorem d_Tree_goOn_53 : decode prog_9_method_6_code 53 = .ok (.ladd, 1) := by decide +kernel
theorem d_Tree_goOn_54 : decode prog_9_method_6_code 54 = .ok (.putfield 60, 3) := by decide +kernel
theorem d_Tree_goOn_57 : decode prog_9_method_6_code 57 = .ok (.return_, 1) := by decide +kernel
theorem d_Tree_goOn_58 : decode prog_9_method_6_code 58 = .ok (.aload_n 0, 1) := by decide +kernel
theorem d_Tree_goOn_59 : decode prog_9_method_6_code 59 = .ok (.getfield 21, 3) := by decide +kernel
theorem d_Tree_goOn_62 : decode prog_9_method_6_code 62 = .ok (.iload 4, 2) := by decide +kernel
theorem d_Tree_goOn_64 : decode prog_9_method_6_code 64 = .ok (.iload_n 3, 1) := by decide +kernel
theorem d_Tree_goOn_65 : decode prog_9_method_6_code 65 = .ok (.iload 5, 2) := by decide +kernel
theorem d_Tree_goOn_67 : decode prog_9_method_6_code 67 = .ok (.iconst 0, 1) := by decide +kernel
theorem d_Tree_goOn_68 : decode prog_9_method_6_code 68 = .ok (.invokevirtual 90, 3) := by decide +kernel
theorem d_Tree_goOn_71 : decode prog_9_method_6_code 71 = .ok (.aload_n 0, 1) := by decide +kernel
theorem d_Tree_goOn_72 : decode prog_9_method_6_code 72 = .ok (.getfield 21, 3) := by decide +kernel
theorem d_Tree_goOn_75 : decode prog_9_method_6_code 75 = .ok (.aload_n 0, 1) := by decide +kernel
theorem d_Tree_goOn_76 : decode prog_9_method_6_code 76 = .ok (.getfield 14, 3) := by decide +kernel
theorem d_Tree_goOn_79 : decode prog_9_method_6_code 79 = .ok (.getfield 94, 3) := by decide +kernel
theorem d_Tree_goOn_82 : decode prog_9_method_6_code 82 = .ok (.aload_n 0, 1) := by decide +kernel
theorem d_Tree_goOn_83 : decode prog_9_method_6_code 83 = .ok (.getfield 14, 3) := by decide +kernel
theorem d_Tree_goOn_86 : decode prog_9_method_6_code 86 = .ok (.iload_n 3, 1) := by decide +kernel
theorem d_Tree_goOn_87 : decode prog_9_method_6_code 87 = .ok (.invokevirtual 97, 3) := by decide +kernel
theorem d_Tree_goOn_90 : decode prog_9_method_6_code 90 = .ok (.invokevirtual 101, 3) := by decide +kernel
theorem d_Tree_goOn_93 : decode prog_9_method_6_code 93 = .ok (.iload_n 2, 1) := by decide +kernel
theorem d_Tree_goOn_94 : decode prog_9_method_6_code 94 = .ok (.ifCond .eq 20, 3) := by decide +kernel
theorem d_Tree_goOn_97 : decode prog_9_method_6_code 97 = .ok (.aload_n 0, 1) := by decide +kernel
theorem d_Tree_goOn_98 : decode prog_9_method_6_code 98 = .ok (.getfield 21, 3) := by decide +kernel
theorem d_Tree_goOn_101 : decode prog_9_method_6_code 101 = .ok (.aload_n 1, 1) := by decide +kernel
theorem d_Tree_goOn_102 : decode prog_9_method_6_code 102 = .ok (.invokevirtual 105, 3) := by decide +kernel
theorem d_Tree_goOn_105 : decode prog_9_method_6_code 105 = .ok (.iload_n 2, 1) := by decide +kernel
theorem d_Tree_goOn_106 : decode prog_9_method_6_code 106 = .ok (.iand, 1) := by decide +kernel
theorem d_Tree_goOn_107 : decode prog_9_method_6_code 107 = .ok (.ifCond .eq 7, 3) := by decide +kernel
theorem d_Tree_goOn_110 : decode prog_9_method_6_code 110 = .ok (.iconst 1, 1) := by decide +kernel
theorem d_Tree_goOn_111 : decode prog_9_method_6_code 111 = .ok (.goto 4, 3) := by decide +kernel
theorem d_Tree_goOn_114 : decode prog_9_method_6_code 114 = .ok (.iconst 0, 1) := by decide +kernel
theorem d_Tree_goOn_115 : decode prog_9_method_6_code 115 = .ok (.istore 9, 2) := by decide +kernel
theorem d_Tree_goOn_117 : decode prog_9_method_6_code 117 = .ok (.aload_n 0, 1) := by decide +kernel
theorem d_Tree_goOn_118 : decode prog_9_method_6_code 118 = .ok (.dup, 1) := by decide +kernel
theorem d_Tree_goOn_119 : decode prog_9_method_6_code 119 = .ok (.getfield 44, 3) := by decide +kernel
theorem d_Tree_goOn_122 : decode prog_9_method_6_code 122 = .ok (.lload 6, 2) := by decide +kernel
theorem d_Tree_goOn_124 : decode prog_9_method_6_code 124 = .ok (.ladd, 1) := by decide +kernel
theorem d_Tree_goOn_125 : decode prog_9_method_6_code 125 = .ok (.putfield 44, 3) := by decide +kernel
theorem d_Tree_goOn_128 : decode prog_9_method_6_code 128 = .ok (.iload 9, 2) := by decide +kernel
theorem d_Tree_goOn_130 : decode prog_9_method_6_code 130 = .ok (.ifCond .eq 19, 3) := by decide +kernel
theorem d_Tree_goOn_133 : decode prog_9_method_6_code 133 = .ok (.iload 8, 2) := by decide +kernel
theorem d_Tree_goOn_135 : decode prog_9_method_6_code 135 = .ok (.ifCond .ne 14, 3) := by decide +kernel
theorem d_Tree_goOn_138 : decode prog_9_method_6_code 138 = .ok (.aload_n 0, 1) := by decide +kernel
theorem d_Tree_goOn_139 : decode prog_9_method_6_code 139 = .ok (.dup, 1) := by decide +kernel
theorem d_Tree_goOn_140 : decode prog_9_method_6_code 140 = .ok (.getfield 57, 3) := by decide +kernel
theorem d_Tree_goOn_143 : decode prog_9_method_6_code 143 = .ok (.lload 6, 2) := by decide +kernel
theorem d_Tree_goOn_145 : decode prog_9_method_6_code 145 = .ok (.ladd, 1) := by decide +kernel
theorem d_Tree_goOn_146 : decode prog_9_method_6_code 146 = .ok (.putfield 57, 3) := by decide +kernel
theorem d_Tree_goOn_149 : decode prog_9_method_6_code 149 = .ok (.aload_n 0, 1) := by decide +kernel
theorem d_Tree_goOn_150 : decode prog_9_method_6_code 150 = .ok (.lload 6, 2) := by decide +kernel
theorem d_Tree_goOn_152 : decode prog_9_method_6_code 152 = .ok (.invokevirtual 109, 3) := by decide +kernel
theorem d_Tree_goOn_155 : decode prog_9_method_6_code 155 = .ok (.lstore 10, 2) := by decide +kernel
theorem d_Tree_goOn_157 : decode prog_9_method_6_code 157 = .ok (.iconst 0, 1) := by decide +kernel
theorem d_Tree_goOn_158 : decode prog_9_method_6_code 158 = .ok (.istore 12, 2) := by decide +kernel
theorem d_Tree_goOn_160 : decode prog_9_method_6_code 160 = .ok (.iload 12, 2) := by decide +kernel
theorem d_Tree_goOn_162 : decode prog_9_method_6_code 162 = .ok (.aload_n 0, 1) := by decide +kernel
theorem d_Tree_goOn_163 : decode prog_9_method_6_code 163 = .ok (.getfield 14, 3) := by decide +kernel
theorem d_Tree_goOn_166 : decode prog_9_method_6_code 166 = .ok (.getfield 113, 3) := by decide +kernel
theorem d_Tree_goOn_169 : decode prog_9_method_6_code 169 = .ok (.if_icmp .gt 96, 3) := by decide +kernel
theorem d_Tree_goOn_172 : decode prog_9_method_6_code 172 = .ok (.aload_n 0, 1) := by decide +kernel
theorem d_Tree_goOn_173 : decode prog_9_method_6_code 173 = .ok (.getfield 14, 3) := by decide +kernel
theorem d_Tree_goOn_176 : decode prog_9_method_6_code 176 = .ok (.iload_n 3, 1) := by decide +kernel
theorem d_Tree_goOn_177 : decode prog_9_method_6_code 177 = .ok (.iload 12, 2) := by decide +kernel
theorem d_Tree_goOn_179 : decode prog_9_method_6_code 179 = .ok (.iload 9, 2) := by decide +kernel
theorem d_Tree_goOn_181 : decode prog_9_method_6_code 181 = .ok (.invokevirtual 116, 3) := by decide +kernel
theorem d_Tree_goOn_184 : decode prog_9_method_6_code 184 = .ok (.istore 13, 2) := by decide +kernel
theorem d_Tree_goOn_186 : decode prog_9_method_6_code 186 = .ok (.aload_n 0, 1) := by decide +kernel
theorem d_Tree_goOn_187 : decode prog_9_method_6_code 187 = .ok (.getfield 14, 3) := by decide +kernel
theorem d_Tree_goOn_190 : decode prog_9_method_6_code 190 = .ok (.iload 13, 2) := by decide +kernel
theorem d_Tree_goOn_192 : decode prog_9_method_6_code 192 = .ok (.invokevirtual 120, 3) := by decide +kernel
theorem d_Tree_goOn_195 : decode prog_9_method_6_code 195 = .ok (.ifCond .eq 14, 3) := by decide +kernel
theorem d_Tree_goOn_198 : decode prog_9_method_6_code 198 = .ok (.aload_n 0, 1) := by decide +kernel
theorem d_Tree_goOn_199 : decode prog_9_method_6_code 199 = .ok (.dup, 1) := by decide +kernel
theorem d_Tree_goOn_200 : decode prog_9_method_6_code 200 = .ok (.getfield 36, 3) := by decide +kernel
theorem d_Tree_goOn_203 : decode prog_9_method_6_code 203 = .ok (.lload 10, 2) := by decide +kernel
theorem d_Tree_goOn_205 : decode prog_9_method_6_code 205 = .ok (.ladd, 1) := by decide +kernel
theorem d_Tree_goOn_206 : decode prog_9_method_6_code 206 = .ok (.putfield 36, 3) := by decide +kernel
theorem d_Tree_goOn_209 : decode prog_9_method_6_code 209 = .ok (.sipush 999, 3) := by decide +kernel
theorem d_Tree_goOn_212 : decode prog_9_method_6_code 212 = .ok (.iload 4, 2) := by decide +kernel
theorem d_Tree_goOn_214 : decode prog_9_method_6_code 214 = .ok (.aload_n 0, 1) := by decide +kernel
theorem d_Tree_goOn_215 : decode prog_9_method_6_code 215 = .ok (.getfield 14, 3) := by decide +kernel
theorem d_Tree_goOn_218 : decode prog_9_method_6_code 218 = .ok (.iload 13, 2) := by decide +kernel
theorem d_Tree_goOn_220 : decode prog_9_method_6_code 220 = .ok (.invokevirtual 124, 3) := by decide +kernel
theorem d_Tree_goOn_223 : decode prog_9_method_6_code 223 = .ok (.iadd, 1) := by decide +kernel
theorem d_Tree_goOn_224 : decode prog_9_method_6_code 224 = .ok (.invokestatic 81, 3) := by decide +kernel
theorem d_Tree_goOn_227 : decode prog_9_method_6_code 227 = .ok (.istore 14, 2) := by decide +kernel
theorem d_Tree_goOn_229 : decode prog_9_method_6_code 229 = .ok (.aload_n 0, 1) := by decide +kernel
theorem d_Tree_goOn_230 : decode prog_9_method_6_code 230 = .ok (.aload_n 1, 1) := by decide +kernel
theorem d_Tree_goOn_231 : decode prog_9_method_6_code 231 = .ok (.iload_n 2, 1) := by decide +kernel
theorem d_Tree_goOn_232 : decode prog_9_method_6_code 232 = .ok (.iload_n 3, 1) := by decide +kernel
theorem d_Tree_goOn_233 : decode prog_9_method_6_code 233 = .ok (.iconst 1, 1) := by decide +kernel
theorem d_Tree_goOn_234 : decode prog_9_method_6_code 234 = .ok (.iadd, 1) := by decide +kernel
theorem d_Tree_goOn_235 : decode prog_9_method_6_code 235 = .ok (.iload 14, 2) := by decide +kernel
theorem d_Tree_goOn_237 : decode prog_9_method_6_code 237 = .ok (.iload 13, 2) := by decide +kernel
theorem d_Tree_goOn_239 : decode prog_9_method_6_code 239 = .ok (.lload 10, 2) := by decide +kernel
theorem d_Tree_goOn_241 : decode prog_9_method_6_code 241 = .ok (.iload 8, 2) := by decide +kernel
theorem d_Tree_goOn_243 : decode prog_9_method_6_code 243 = .ok (.ifCond .ne 8, 3) := by decide +kernel
theorem d_Tree_goOn_246 : decode prog_9_method_6_code 246 = .ok (.iload 9, 2) := by decide +kernel
theorem d_Tree_goOn_248 : decode prog_9_method_6_code 248 = .ok (.ifCond .eq 7, 3) := by decide +kernel
theorem d_Tree_goOn_251 : decode prog_9_method_6_code 251 = .ok (.iconst 1, 1) := by decide +kernel
theorem d_Tree_goOn_252 : decode prog_9_method_6_code 252 = .ok (.goto 4, 3) := by decide +kernel
theorem d_Tree_goOn_255 : decode prog_9_method_6_code 255 = .ok (.iconst 0, 1) := by decide +kernel
theorem d_Tree_goOn_256 : decode prog_9_method_6_code 256 = .ok (.invokevirtual 73, 3) := by decide +kernel
theorem d_Tree_goOn_259 : decode prog_9_method_6_code 259 = .ok (.iinc 12 1, 3) := by decide +kernel
theorem d_Tree_goOn_262 : decode prog_9_method_6_code 262 = .ok (.goto (-102), 3) := by decide +kernel
theorem d_Tree_goOn_265 : decode prog_9_method_6_code 265 = .ok (.return_, 1) := by decide +kernel
theorem d_Tree_walk_0 : decode prog_9_method_5_code 0 = .ok (.aload_n 0, 1) := by decide +kernel
theorem d_Tree_walk_1 : decode prog_9_method_5_code 1 = .ok (.lconst 0, 1) := by decide +kernel
theorem d_Tree_walk_2 : decode prog_9_method_5_code 2 = .ok (.putfield 36, 3) := by decide +kernel
theorem d_Tree_walk_5 : decode prog_9_method_5_code 5 = .ok (.aload_n 0, 1) := by decide +kernel
theorem d_Tree_walk_6 : decode prog_9_method_5_code 6 = .ok (.lconst 0, 1) := by decide +kernel
theorem d_Tree_walk_7 : decode prog_9_method_5_code 7 = .ok (.putfield 44, 3) := by decide +kernel
theorem d_Tree_walk_10 : decode prog_9_method_5_code 10 = .ok (.aload_n 0, 1) := by decide +kernel
theorem d_Tree_walk_11 : decode prog_9_method_5_code 11 = .ok (.lconst 0, 1) := by decide +kernel
theorem d_Tree_walk_12 : decode prog_9_method_5_code 12 = .ok (.putfield 57, 3) := by decide +kernel
theorem d_Tree_walk_15 : decode prog_9_method_5_code 15 = .ok (.aload_n 0, 1) := by decide +kernel
theorem d_Tree_walk_16 : decode prog_9_method_5_code 16 = .ok (.lconst 0, 1) := by decide +kernel
theorem d_Tree_walk_17 : decode prog_9_method_5_code 17 = .ok (.putfield 60, 3) := by decide +kernel
theorem d_Tree_walk_20 : decode prog_9_method_5_code 20 = .ok (.aload_n 0, 1) := by decide +kernel
theorem d_Tree_walk_21 : decode prog_9_method_5_code 21 = .ok (.iconst 4, 1) := by decide +kernel
theorem d_Tree_walk_22 : decode prog_9_method_5_code 22 = .ok (.putfield 51, 3) := by decide +kernel
theorem d_Tree_walk_25 : decode prog_9_method_5_code 25 = .ok (.aload_n 0, 1) := by decide +kernel
theorem d_Tree_walk_26 : decode prog_9_method_5_code 26 = .ok (.iconst 0, 1) := by decide +kernel
theorem d_Tree_walk_27 : decode prog_9_method_5_code 27 = .ok (.putfield 54, 3) := by decide +kernel
theorem d_Tree_walk_30 : decode prog_9_method_5_code 30 = .ok (.aload_n 0, 1) := by decide +kernel
theorem d_Tree_walk_31 : decode prog_9_method_5_code 31 = .ok (.aload_n 1, 1) := by decide +kernel
theorem d_Tree_walk_32 : decode prog_9_method_5_code 32 = .ok (.iload_n 2, 1) := by decide +kernel
theorem d_Tree_walk_33 : decode prog_9_method_5_code 33 = .ok (.iconst 0, 1) := by decide +kernel
theorem d_Tree_walk_34 : decode prog_9_method_5_code 34 = .ok (.aload_n 0, 1) := by decide +kernel
theorem d_Tree_walk_35 : decode prog_9_method_5_code 35 = .ok (.getfield 14, 3) := by decide +kernel
theorem d_Tree_walk_38 : decode prog_9_method_5_code 38 = .ok (.getfield 70, 3) := by decide +kernel
theorem d_Tree_walk_41 : decode prog_9_method_5_code 41 = .ok (.iconst 0, 1) := by decide +kernel
theorem d_Tree_walk_42 : decode prog_9_method_5_code 42 = .ok (.ldc2_w 65, 3) := by decide +kernel
theorem d_Tree_walk_45 : decode prog_9_method_5_code 45 = .ok (.iconst 0, 1) := by decide +kernel
theorem d_Tree_walk_46 : decode prog_9_method_5_code 46 = .ok (.invokevirtual 73, 3) := by decide +kernel
theorem d_Tree_walk_49 : decode prog_9_method_5_code 49 = .ok (.return_, 1) := by decide +kernel
theorem d_Tree_thousandths_0 : decode prog_9_method_3_code 0 = .ok (.lload_n 0, 1) := by decide +kernel
theorem d_Tree_thousandths_1 : decode prog_9_method_3_code 1 = .ok (.ldc2_w 63, 3) := by decide +kernel
theorem d_Tree_thousandths_4 : decode prog_9_method_3_code 4 = .ok (.lmul, 1) := by decide +kernel
theorem d_Tree_thousandths_5 : decode prog_9_method_3_code 5 = .ok (.ldc2_w 65, 3) := by decide +kernel
theorem d_Tree_thousandths_8 : decode prog_9_method_3_code 8 = .ok (.ldiv, 1) := by decide +kernel
theorem d_Tree_thousandths_9 : decode prog_9_method_3_code 9 = .ok (.l2i, 1) := by decide +kernel
theorem d_Tree_thousandths_10 : decode prog_9_method_3_code 10 = .ok (.ireturn, 1) := by decide +kernel
theorem d_Tree_fact_0 : decode prog_9_method_2_code 0 = .ok (.iload_n 1, 1) := by decide +kernel
theorem d_Tree_fact_1 : decode prog_9_method_2_code 1 = .ok (.tableswitch 90 0 5 #[39, 47, 64, 69, 74, 82], 39) := by decide +kernel
theorem d_Tree_fact_40 : decode prog_9_method_2_code 40 = .ok (.aload_n 0, 1) := by decide +kernel
theorem d_Tree_fact_41 : decode prog_9_method_2_code 41 = .ok (.getfield 36, 3) := by decide +kernel
theorem d_Tree_fact_44 : decode prog_9_method_2_code 44 = .ok (.invokestatic 40, 3) := by decide +kernel
theorem d_Tree_fact_47 : decode prog_9_method_2_code 47 = .ok (.ireturn, 1) := by decide +kernel
theorem d_Tree_fact_48 : decode prog_9_method_2_code 48 = .ok (.aload_n 0, 1) := by decide +kernel
theorem d_Tree_fact_49 : decode prog_9_method_2_code 49 = .ok (.getfield 44, 3) := by decide +kernel
theorem d_Tree_fact_52 : decode prog_9_method_2_code 52 = .ok (.aload_n 0, 1) := by decide +kernel
theorem d_Tree_fact_53 : decode prog_9_method_2_code 53 = .ok (.getfield 14, 3) := by decide +kernel
theorem d_Tree_fact_56 : decode prog_9_method_2_code 56 = .ok (.getfield 47, 3) := by decide +kernel
theorem d_Tree_fact_59 : decode prog_9_method_2_code 59 = .ok (.i2l, 1) := by decide +kernel
theorem d_Tree_fact_60 : decode prog_9_method_2_code 60 = .ok (.lmul, 1) := by decide +kernel
theorem d_Tree_fact_61 : decode prog_9_method_2_code 61 = .ok (.invokestatic 40, 3) := by decide +kernel
theorem d_Tree_fact_64 : decode prog_9_method_2_code 64 = .ok (.ireturn, 1) := by decide +kernel
theorem d_Tree_fact_65 : decode prog_9_method_2_code 65 = .ok (.aload_n 0, 1) := by decide +kernel
theorem d_Tree_fact_66 : decode prog_9_method_2_code 66 = .ok (.getfield 51, 3) := by decide +kernel
theorem d_Tree_fact_69 : decode prog_9_method_2_code 69 = .ok (.ireturn, 1) := by decide +kernel
theorem d_Tree_fact_70 : decode prog_9_method_2_code 70 = .ok (.aload_n 0, 1) := by decide +kernel
theorem d_Tree_fact_71 : decode prog_9_method_2_code 71 = .ok (.getfield 54, 3) := by decide +kernel
theorem d_Tree_fact_74 : decode prog_9_method_2_code 74 = .ok (.ireturn, 1) := by decide +kernel
theorem d_Tree_fact_75 : decode prog_9_method_2_code 75 = .ok (.aload_n 0, 1) := by decide +kernel
theorem d_Tree_fact_76 : decode prog_9_method_2_code 76 = .ok (.getfield 57, 3) := by decide +kernel
theorem d_Tree_fact_79 : decode prog_9_method_2_code 79 = .ok (.invokestatic 40, 3) := by decide +kernel
theorem d_Tree_fact_82 : decode prog_9_method_2_code 82 = .ok (.ireturn, 1) := by decide +kernel
theorem d_Tree_fact_83 : decode prog_9_method_2_code 83 = .ok (.aload_n 0, 1) := by decide +kernel
theorem d_Tree_fact_84 : decode prog_9_method_2_code 84 = .ok (.getfield 60, 3) := by decide +kernel
theorem d_Tree_fact_87 : decode prog_9_method_2_code 87 = .ok (.invokestatic 40, 3) := by decide +kernel
theorem d_Tree_fact_90 : decode prog_9_method_2_code 90 = .ok (.ireturn, 1) := by decide +kernel
theorem d_Tree_fact_91 : decode prog_9_method_2_code 91 = .ok (.iconst (-1), 1) := by decide +kernel
theorem d_Tree_fact_92 : decode prog_9_method_2_code 92 = .ok (.ireturn, 1) := by decide +kernel
theorem d_BH_tree_0 : decode prog_1_method_15_code 0 = .ok (.aload_n 0, 1) := by decide +kernel
theorem d_BH_tree_1 : decode prog_1_method_15_code 1 = .ok (.iload_n 1, 1) := by decide +kernel
theorem d_BH_tree_2 : decode prog_1_method_15_code 2 = .ok (.invokevirtual 144, 3) := by decide +kernel
theorem d_BH_tree_5 : decode prog_1_method_15_code 5 = .ok (.ifCond .ne 5, 3) := by decide +kernel
theorem d_BH_tree_8 : decode prog_1_method_15_code 8 = .ok (.iconst (-1), 1) := by decide +kernel
theorem d_BH_tree_9 : decode prog_1_method_15_code 9 = .ok (.ireturn, 1) := by decide +kernel
theorem d_BH_tree_10 : decode prog_1_method_15_code 10 = .ok (.aload_n 0, 1) := by decide +kernel
theorem d_BH_tree_11 : decode prog_1_method_15_code 11 = .ok (.getfield 47, 3) := by decide +kernel
theorem d_BH_tree_14 : decode prog_1_method_15_code 14 = .ok (.getfield 191, 3) := by decide +kernel
theorem d_BH_tree_17 : decode prog_1_method_15_code 17 = .ok (.aload_n 0, 1) := by decide +kernel
theorem d_BH_tree_18 : decode prog_1_method_15_code 18 = .ok (.getfield 54, 3) := by decide +kernel
theorem d_BH_tree_21 : decode prog_1_method_15_code 21 = .ok (.iload_n 1, 1) := by decide +kernel
theorem d_BH_tree_22 : decode prog_1_method_15_code 22 = .ok (.aload_n 0, 1) := by decide +kernel
theorem d_BH_tree_23 : decode prog_1_method_15_code 23 = .ok (.getfield 26, 3) := by decide +kernel
theorem d_BH_tree_26 : decode prog_1_method_15_code 26 = .ok (.getfield 114, 3) := by decide +kernel
theorem d_BH_tree_29 : decode prog_1_method_15_code 29 = .ok (.invokevirtual 163, 3) := by decide +kernel
theorem d_BH_tree_32 : decode prog_1_method_15_code 32 = .ok (.aload_n 0, 1) := by decide +kernel
theorem d_BH_tree_33 : decode prog_1_method_15_code 33 = .ok (.getfield 47, 3) := by decide +kernel
theorem d_BH_tree_36 : decode prog_1_method_15_code 36 = .ok (.aload_n 0, 1) := by decide +kernel
theorem d_BH_tree_37 : decode prog_1_method_15_code 37 = .ok (.getfield 54, 3) := by decide +kernel
theorem d_BH_tree_40 : decode prog_1_method_15_code 40 = .ok (.aload_n 0, 1) := by decide +kernel
theorem d_BH_tree_41 : decode prog_1_method_15_code 41 = .ok (.getfield 26, 3) := by decide +kernel
theorem d_BH_tree_44 : decode prog_1_method_15_code 44 = .ok (.getfield 111, 3) := by decide +kernel
theorem d_BH_tree_47 : decode prog_1_method_15_code 47 = .ok (.invokevirtual 192, 3) := by decide +kernel
theorem d_BH_tree_50 : decode prog_1_method_15_code 50 = .ok (.aload_n 0, 1) := by decide +kernel
theorem d_BH_tree_51 : decode prog_1_method_15_code 51 = .ok (.getfield 47, 3) := by decide +kernel
theorem d_BH_tree_54 : decode prog_1_method_15_code 54 = .ok (.iload_n 2, 1) := by decide +kernel
theorem d_BH_tree_55 : decode prog_1_method_15_code 55 = .ok (.invokevirtual 196, 3) := by decide +kernel
theorem d_BH_tree_58 : decode prog_1_method_15_code 58 = .ok (.ireturn, 1) := by decide +kernel
theorem d_Arrays_fill_J_0 : decode prog_19_method_101_code 0 = .ok (.iconst 0, 1) := by decide +kernel
theorem d_Arrays_fill_J_1 : decode prog_19_method_101_code 1 = .ok (.istore_n 3, 1) := by decide +kernel
theorem d_Arrays_fill_J_2 : decode prog_19_method_101_code 2 = .ok (.aload_n 0, 1) := by decide +kernel
theorem d_Arrays_fill_J_3 : decode prog_19_method_101_code 3 = .ok (.arraylength, 1) := by decide +kernel
theorem d_Arrays_fill_J_4 : decode prog_19_method_101_code 4 = .ok (.istore 4, 2) := by decide +kernel
theorem d_Arrays_fill_J_6 : decode prog_19_method_101_code 6 = .ok (.iload_n 3, 1) := by decide +kernel
theorem d_Arrays_fill_J_7 : decode prog_19_method_101_code 7 = .ok (.iload 4, 2) := by decide +kernel
theorem d_Arrays_fill_J_9 : decode prog_19_method_101_code 9 = .ok (.if_icmp .ge 13, 3) := by decide +kernel
theorem d_Arrays_fill_J_12 : decode prog_19_method_101_code 12 = .ok (.aload_n 0, 1) := by decide +kernel
theorem d_Arrays_fill_J_13 : decode prog_19_method_101_code 13 = .ok (.iload_n 3, 1) := by decide +kernel
theorem d_Arrays_fill_J_14 : decode prog_19_method_101_code 14 = .ok (.lload_n 1, 1) := by decide +kernel
theorem d_Arrays_fill_J_15 : decode prog_19_method_101_code 15 = .ok (.lastore, 1) := by decide +kernel
theorem d_Arrays_fill_J_16 : decode prog_19_method_101_code 16 = .ok (.iinc 3 1, 3) := by decide +kernel
theorem d_Arrays_fill_J_19 : decode prog_19_method_101_code 19 = .ok (.goto (-13), 3) := by decide +kernel
theorem d_Arrays_fill_J_22 : decode prog_19_method_101_code 22 = .ok (.return_, 1) := by decide +kernel
theorem d_Arrays_fill_I_0 : decode prog_19_method_103_code 0 = .ok (.iconst 0, 1) := by decide +kernel
theorem d_Arrays_fill_I_1 : decode prog_19_method_103_code 1 = .ok (.istore_n 2, 1) := by decide +kernel
theorem d_Arrays_fill_I_2 : decode prog_19_method_103_code 2 = .ok (.aload_n 0, 1) := by decide +kernel
theorem d_Arrays_fill_I_3 : decode prog_19_method_103_code 3 = .ok (.arraylength, 1) := by decide +kernel
theorem d_Arrays_fill_I_4 : decode prog_19_method_103_code 4 = .ok (.istore_n 3, 1) := by decide +kernel
theorem d_Arrays_fill_I_5 : decode prog_19_method_103_code 5 = .ok (.iload_n 2, 1) := by decide +kernel
theorem d_Arrays_fill_I_6 : decode prog_19_method_103_code 6 = .ok (.iload_n 3, 1) := by decide +kernel
theorem d_Arrays_fill_I_7 : decode prog_19_method_103_code 7 = .ok (.if_icmp .ge 13, 3) := by decide +kernel
theorem d_Arrays_fill_I_10 : decode prog_19_method_103_code 10 = .ok (.aload_n 0, 1) := by decide +kernel
theorem d_Arrays_fill_I_11 : decode prog_19_method_103_code 11 = .ok (.iload_n 2, 1) := by decide +kernel
theorem d_Arrays_fill_I_12 : decode prog_19_method_103_code 12 = .ok (.iload_n 1, 1) := by decide +kernel
theorem d_Arrays_fill_I_13 : decode prog_19_method_103_code 13 = .ok (.iastore, 1) := by decide +kernel
theorem d_Arrays_fill_I_14 : decode prog_19_method_103_code 14 = .ok (.iinc 2 1, 3) := by decide +kernel
theorem d_Arrays_fill_I_17 : decode prog_19_method_103_code 17 = .ok (.goto (-12), 3) := by decide +kernel
theorem d_Arrays_fill_I_20 : decode prog_19_method_103_code 20 = .ok (.return_, 1) := by decide +kernel
theorem d_Turn_crowdBehind_0 : decode prog_10_method_9_code 0 = .ok (.sipush 999, 3) := by decide +kernel
theorem d_Turn_crowdBehind_3 : decode prog_10_method_9_code 3 = .ok (.aload_n 0, 1) := by decide +kernel
theorem d_Turn_crowdBehind_4 : decode prog_10_method_9_code 4 = .ok (.getfield 58, 3) := by decide +kernel
theorem d_Turn_crowdBehind_7 : decode prog_10_method_9_code 7 = .ok (.iload_n 2, 1) := by decide +kernel
theorem d_Turn_crowdBehind_8 : decode prog_10_method_9_code 8 = .ok (.aload_n 0, 1) := by decide +kernel
theorem d_Turn_crowdBehind_9 : decode prog_10_method_9_code 9 = .ok (.getfield 9, 3) := by decide +kernel
theorem d_Turn_crowdBehind_12 : decode prog_10_method_9_code 12 = .ok (.iconst 1, 1) := by decide +kernel
theorem d_Turn_crowdBehind_13 : decode prog_10_method_9_code 13 = .ok (.iaload, 1) := by decide +kernel
theorem d_Turn_crowdBehind_14 : decode prog_10_method_9_code 14 = .ok (.imul, 1) := by decide +kernel
theorem d_Turn_crowdBehind_15 : decode prog_10_method_9_code 15 = .ok (.iadd, 1) := by decide +kernel
theorem d_Turn_crowdBehind_16 : decode prog_10_method_9_code 16 = .ok (.iload_n 1, 1) := by decide +kernel
theorem d_Turn_crowdBehind_17 : decode prog_10_method_9_code 17 = .ok (.iload_n 2, 1) := by decide +kernel
theorem d_Turn_crowdBehind_18 : decode prog_10_method_9_code 18 = .ok (.isub, 1) := by decide +kernel
theorem d_Turn_crowdBehind_19 : decode prog_10_method_9_code 19 = .ok (.aload_n 0, 1) := by decide +kernel
theorem d_Turn_crowdBehind_20 : decode prog_10_method_9_code 20 = .ok (.getfield 9, 3) := by decide +kernel
theorem d_Turn_crowdBehind_23 : decode prog_10_method_9_code 23 = .ok (.iconst 2, 1) := by decide +kernel
theorem d_Turn_crowdBehind_24 : decode prog_10_method_9_code 24 = .ok (.iaload, 1) := by decide +kernel
theorem d_Turn_crowdBehind_25 : decode prog_10_method_9_code 25 = .ok (.imul, 1) := by decide +kernel
theorem d_Turn_crowdBehind_26 : decode prog_10_method_9_code 26 = .ok (.iadd, 1) := by decide +kernel
theorem d_Turn_crowdBehind_27 : decode prog_10_method_9_code 27 = .ok (.invokestatic 84, 3) := by decide +kernel
theorem d_Turn_crowdBehind_30 : decode prog_10_method_9_code 30 = .ok (.ireturn, 1) := by decide +kernel
theorem d_Tree_rulesAt_0 : decode prog_9_method_11_code 0 = .ok (.aload_n 0, 1) := by decide +kernel
theorem d_Tree_rulesAt_1 : decode prog_9_method_11_code 1 = .ok (.getfield 29, 3) := by decide +kernel
theorem d_Tree_rulesAt_4 : decode prog_9_method_11_code 4 = .ok (.iload_n 2, 1) := by decide +kernel
theorem d_Tree_rulesAt_5 : decode prog_9_method_11_code 5 = .ok (.iaload, 1) := by decide +kernel
theorem d_Tree_rulesAt_6 : decode prog_9_method_11_code 6 = .ok (.iconst (-1), 1) := by decide +kernel
theorem d_Tree_rulesAt_7 : decode prog_9_method_11_code 7 = .ok (.if_icmp .ne 60, 3) := by decide +kernel
theorem d_Tree_rulesAt_10 : decode prog_9_method_11_code 10 = .ok (.aload_n 0, 1) := by decide +kernel
theorem d_Tree_rulesAt_11 : decode prog_9_method_11_code 11 = .ok (.getfield 21, 3) := by decide +kernel
theorem d_Tree_rulesAt_14 : decode prog_9_method_11_code 14 = .ok (.aload_n 0, 1) := by decide +kernel
theorem d_Tree_rulesAt_15 : decode prog_9_method_11_code 15 = .ok (.getfield 14, 3) := by decide +kernel
theorem d_Tree_rulesAt_18 : decode prog_9_method_11_code 18 = .ok (.iload_n 3, 1) := by decide +kernel
theorem d_Tree_rulesAt_19 : decode prog_9_method_11_code 19 = .ok (.iload 4, 2) := by decide +kernel
theorem d_Tree_rulesAt_21 : decode prog_9_method_11_code 21 = .ok (.invokevirtual 169, 3) := by decide +kernel
theorem d_Tree_rulesAt_24 : decode prog_9_method_11_code 24 = .ok (.iload_n 3, 1) := by decide +kernel
theorem d_Tree_rulesAt_25 : decode prog_9_method_11_code 25 = .ok (.iload 5, 2) := by decide +kernel
theorem d_Tree_rulesAt_27 : decode prog_9_method_11_code 27 = .ok (.iconst 0, 1) := by decide +kernel
theorem d_Tree_rulesAt_28 : decode prog_9_method_11_code 28 = .ok (.invokevirtual 90, 3) := by decide +kernel
theorem d_Tree_rulesAt_31 : decode prog_9_method_11_code 31 = .ok (.aload_n 0, 1) := by decide +kernel
theorem d_Tree_rulesAt_32 : decode prog_9_method_11_code 32 = .ok (.getfield 21, 3) := by decide +kernel
theorem d_Tree_rulesAt_35 : decode prog_9_method_11_code 35 = .ok (.aload_n 0, 1) := by decide +kernel
theorem d_Tree_rulesAt_36 : decode prog_9_method_11_code 36 = .ok (.getfield 14, 3) := by decide +kernel
theorem d_Tree_rulesAt_39 : decode prog_9_method_11_code 39 = .ok (.getfield 94, 3) := by decide +kernel
theorem d_Tree_rulesAt_42 : decode prog_9_method_11_code 42 = .ok (.aload_n 0, 1) := by decide +kernel
theorem d_Tree_rulesAt_43 : decode prog_9_method_11_code 43 = .ok (.getfield 14, 3) := by decide +kernel
theorem d_Tree_rulesAt_46 : decode prog_9_method_11_code 46 = .ok (.iload_n 3, 1) := by decide +kernel
theorem d_Tree_rulesAt_47 : decode prog_9_method_11_code 47 = .ok (.invokevirtual 97, 3) := by decide +kernel
theorem d_Tree_rulesAt_50 : decode prog_9_method_11_code 50 = .ok (.invokevirtual 101, 3) := by decide +kernel
theorem d_Tree_rulesAt_53 : decode prog_9_method_11_code 53 = .ok (.aload_n 0, 1) := by decide +kernel
theorem d_Tree_rulesAt_54 : decode prog_9_method_11_code 54 = .ok (.getfield 29, 3) := by decide +kernel
theorem d_Tree_rulesAt_57 : decode prog_9_method_11_code 57 = .ok (.iload_n 2, 1) := by decide +kernel
theorem d_Tree_rulesAt_58 : decode prog_9_method_11_code 58 = .ok (.aload_n 0, 1) := by decide +kernel
theorem d_Tree_rulesAt_59 : decode prog_9_method_11_code 59 = .ok (.getfield 21, 3) := by decide +kernel
theorem d_Tree_rulesAt_62 : decode prog_9_method_11_code 62 = .ok (.aload_n 1, 1) := by decide +kernel
theorem d_Tree_rulesAt_63 : decode prog_9_method_11_code 63 = .ok (.invokevirtual 105, 3) := by decide +kernel
theorem d_Tree_rulesAt_66 : decode prog_9_method_11_code 66 = .ok (.iastore, 1) := by decide +kernel
theorem d_Tree_rulesAt_67 : decode prog_9_method_11_code 67 = .ok (.aload_n 0, 1) := by decide +kernel
theorem d_Tree_rulesAt_68 : decode prog_9_method_11_code 68 = .ok (.getfield 29, 3) := by decide +kernel
theorem d_Tree_rulesAt_71 : decode prog_9_method_11_code 71 = .ok (.iload_n 2, 1) := by decide +kernel
theorem d_Tree_rulesAt_72 : decode prog_9_method_11_code 72 = .ok (.iaload, 1) := by decide +kernel
theorem d_Tree_rulesAt_73 : decode prog_9_method_11_code 73 = .ok (.ireturn, 1) := by decide +kernel
theorem d_Tree_blowsFrom_0 : decode prog_9_method_10_code 0 = .ok (.iload_n 3, 1) := by decide +kernel
theorem d_Tree_blowsFrom_1 : decode prog_9_method_10_code 1 = .ok (.iconst 4, 1) := by decide +kernel
theorem d_Tree_blowsFrom_2 : decode prog_9_method_10_code 2 = .ok (.imul, 1) := by decide +kernel
theorem d_Tree_blowsFrom_3 : decode prog_9_method_10_code 3 = .ok (.iload 4, 2) := by decide +kernel
theorem d_Tree_blowsFrom_5 : decode prog_9_method_10_code 5 = .ok (.iadd, 1) := by decide +kernel
theorem d_Tree_blowsFrom_6 : decode prog_9_method_10_code 6 = .ok (.bipush 12, 2) := by decide +kernel
theorem d_Tree_blowsFrom_8 : decode prog_9_method_10_code 8 = .ok (.imul, 1) := by decide +kernel
theorem d_Tree_blowsFrom_9 : decode prog_9_method_10_code 9 = .ok (.iload 5, 2) := by decide +kernel
theorem d_Tree_blowsFrom_11 : decode prog_9_method_10_code 11 = .ok (.iadd, 1) := by decide +kernel
theorem d_Tree_blowsFrom_12 : decode prog_9_method_10_code 12 = .ok (.istore 9, 2) := by decide +kernel
theorem d_Tree_blowsFrom_14 : decode prog_9_method_10_code 14 = .ok (.iload 9, 2) := by decide +kernel
theorem d_Tree_blowsFrom_16 : decode prog_9_method_10_code 16 = .ok (.ifCond .lt 24, 3) := by decide +kernel
theorem d_Tree_blowsFrom_19 : decode prog_9_method_10_code 19 = .ok (.iload 9, 2) := by decide +kernel
theorem d_Tree_blowsFrom_21 : decode prog_9_method_10_code 21 = .ok (.sipush 192, 3) := by decide +kernel
theorem d_Tree_blowsFrom_24 : decode prog_9_method_10_code 24 = .ok (.if_icmp .ge 16, 3) := by decide +kernel
theorem d_Tree_blowsFrom_27 : decode prog_9_method_10_code 27 = .ok (.aload_n 0, 1) := by decide +kernel
theorem d_Tree_blowsFrom_28 : decode prog_9_method_10_code 28 = .ok (.getfield 14, 3) := by decide +kernel
theorem d_Tree_blowsFrom_31 : decode prog_9_method_10_code 31 = .ok (.iload_n 3, 1) := by decide +kernel
theorem d_Tree_blowsFrom_32 : decode prog_9_method_10_code 32 = .ok (.iload 6, 2) := by decide +kernel
theorem d_Tree_blowsFrom_34 : decode prog_9_method_10_code 34 = .ok (.invokevirtual 77, 3) := by decide +kernel
theorem d_Tree_blowsFrom_37 : decode prog_9_method_10_code 37 = .ok (.ifCond .ne 5, 3) := by decide +kernel
theorem d_Tree_blowsFrom_40 : decode prog_9_method_10_code 40 = .ok (.lconst 0, 1) := by decide +kernel
theorem d_Tree_blowsFrom_41 : decode prog_9_method_10_code 41 = .ok (.lreturn, 1) := by decide +kernel
theorem d_Tree_blowsFrom_42 : decode prog_9_method_10_code 42 = .ok (.aload_n 0, 1) := by decide +kernel
theorem d_Tree_blowsFrom_43 : decode prog_9_method_10_code 43 = .ok (.getfield 25, 3) := by decide +kernel
theorem d_Tree_blowsFrom_46 : decode prog_9_method_10_code 46 = .ok (.iload 9, 2) := by decide +kernel
theorem d_Tree_blowsFrom_48 : decode prog_9_method_10_code 48 = .ok (.laload, 1) := by decide +kernel
theorem d_Tree_blowsFrom_49 : decode prog_9_method_10_code 49 = .ok (.ldc2_w 148, 3) := by decide +kernel
theorem d_Tree_blowsFrom_52 : decode prog_9_method_10_code 52 = .ok (.lcmp, 1) := by decide +kernel
theorem d_Tree_blowsFrom_53 : decode prog_9_method_10_code 53 = .ok (.ifCond .eq 11, 3) := by decide +kernel
theorem d_Tree_blowsFrom_56 : decode prog_9_method_10_code 56 = .ok (.aload_n 0, 1) := by decide +kernel
theorem d_Tree_blowsFrom_57 : decode prog_9_method_10_code 57 = .ok (.getfield 25, 3) := by decide +kernel
theorem d_Tree_blowsFrom_60 : decode prog_9_method_10_code 60 = .ok (.iload 9, 2) := by decide +kernel
theorem d_Tree_blowsFrom_62 : decode prog_9_method_10_code 62 = .ok (.laload, 1) := by decide +kernel
theorem d_Tree_blowsFrom_63 : decode prog_9_method_10_code 63 = .ok (.lreturn, 1) := by decide +kernel
theorem d_Tree_blowsFrom_64 : decode prog_9_method_10_code 64 = .ok (.iload_n 2, 1) := by decide +kernel
theorem d_Tree_blowsFrom_65 : decode prog_9_method_10_code 65 = .ok (.ifCond .eq 24, 3) := by decide +kernel
theorem d_Tree_blowsFrom_68 : decode prog_9_method_10_code 68 = .ok (.aload_n 0, 1) := by decide +kernel
theorem d_Tree_blowsFrom_69 : decode prog_9_method_10_code 69 = .ok (.aload_n 1, 1) := by decide +kernel
theorem d_Tree_blowsFrom_70 : decode prog_9_method_10_code 70 = .ok (.iload 9, 2) := by decide +kernel
theorem d_Tree_blowsFrom_72 : decode prog_9_method_10_code 72 = .ok (.iload_n 3, 1) := by decide +kernel
theorem d_Tree_blowsFrom_73 : decode prog_9_method_10_code 73 = .ok (.iload 4, 2) := by decide +kernel
theorem d_Tree_blowsFrom_75 : decode prog_9_method_10_code 75 = .ok (.iload 6, 2) := by decide +kernel
theorem d_Tree_blowsFrom_77 : decode prog_9_method_10_code 77 = .ok (.invokevirtual 160, 3) := by decide +kernel
theorem d_Tree_blowsFrom_80 : decode prog_9_method_10_code 80 = .ok (.iload_n 2, 1) := by decide +kernel
theorem d_Tree_blowsFrom_81 : decode prog_9_method_10_code 81 = .ok (.iand, 1) := by decide +kernel
theorem d_Tree_blowsFrom_82 : decode prog_9_method_10_code 82 = .ok (.ifCond .eq 7, 3) := by decide +kernel
theorem d_Tree_blowsFrom_85 : decode prog_9_method_10_code 85 = .ok (.iconst 1, 1) := by decide +kernel
theorem d_Tree_blowsFrom_86 : decode prog_9_method_10_code 86 = .ok (.goto 4, 3) := by decide +kernel
theorem d_Tree_blowsFrom_89 : decode prog_9_method_10_code 89 = .ok (.iconst 0, 1) := by decide +kernel
theorem d_Tree_blowsFrom_90 : decode prog_9_method_10_code 90 = .ok (.istore 10, 2) := by decide +kernel
theorem d_Tree_blowsFrom_92 : decode prog_9_method_10_code 92 = .ok (.lconst 0, 1) := by decide +kernel
theorem d_Tree_blowsFrom_93 : decode prog_9_method_10_code 93 = .ok (.lstore 11, 2) := by decide +kernel
theorem d_Tree_blowsFrom_95 : decode prog_9_method_10_code 95 = .ok (.iconst 0, 1) := by decide +kernel
theorem d_Tree_blowsFrom_96 : decode prog_9_method_10_code 96 = .ok (.istore 13, 2) := by decide +kernel
theorem d_Tree_blowsFrom_98 : decode prog_9_method_10_code 98 = .ok (.iload 13, 2) := by decide +kernel
theorem d_Tree_blowsFrom_100 : decode prog_9_method_10_code 100 = .ok (.aload_n 0, 1) := by decide +kernel
theorem d_Tree_blowsFrom_101 : decode prog_9_method_10_code 101 = .ok (.getfield 14, 3) := by decide +kernel
theorem d_Tree_blowsFrom_104 : decode prog_9_method_10_code 104 = .ok (.getfield 113, 3) := by decide +kernel
theorem d_Tree_blowsFrom_107 : decode prog_9_method_10_code 107 = .ok (.if_icmp .gt 84, 3) := by decide +kernel
theorem d_Tree_blowsFrom_110 : decode prog_9_method_10_code 110 = .ok (.aload_n 0, 1) := by decide +kernel
theorem d_Tree_blowsFrom_111 : decode prog_9_method_10_code 111 = .ok (.getfield 14, 3) := by decide +kernel
theorem d_Tree_blowsFrom_114 : decode prog_9_method_10_code 114 = .ok (.iload_n 3, 1) := by decide +kernel
theorem d_Tree_blowsFrom_115 : decode prog_9_method_10_code 115 = .ok (.iload 13, 2) := by decide +kernel
theorem d_Tree_blowsFrom_117 : decode prog_9_method_10_code 117 = .ok (.iload 10, 2) := by decide +kernel
theorem d_Tree_blowsFrom_119 : decode prog_9_method_10_code 119 = .ok (.invokevirtual 116, 3) := by decide +kernel
theorem d_Tree_blowsFrom_122 : decode prog_9_method_10_code 122 = .ok (.istore 14, 2) := by decide +kernel
theorem d_Tree_blowsFrom_124 : decode prog_9_method_10_code 124 = .ok (.iload 4, 2) := by decide +kernel
theorem d_Tree_blowsFrom_126 : decode prog_9_method_10_code 126 = .ok (.aload_n 0, 1) := by decide +kernel
theorem d_Tree_blowsFrom_127 : decode prog_9_method_10_code 127 = .ok (.getfield 14, 3) := by decide +kernel
theorem d_Tree_blowsFrom_130 : decode prog_9_method_10_code 130 = .ok (.iload 14, 2) := by decide +kernel
theorem d_Tree_blowsFrom_132 : decode prog_9_method_10_code 132 = .ok (.invokevirtual 164, 3) := by decide +kernel
theorem d_Tree_blowsFrom_135 : decode prog_9_method_10_code 135 = .ok (.ifCond .eq 7, 3) := by decide +kernel
theorem d_Tree_blowsFrom_138 : decode prog_9_method_10_code 138 = .ok (.iconst 1, 1) := by decide +kernel
theorem d_Tree_blowsFrom_139 : decode prog_9_method_10_code 139 = .ok (.goto 4, 3) := by decide +kernel
theorem d_Tree_blowsFrom_142 : decode prog_9_method_10_code 142 = .ok (.iconst 0, 1) := by decide +kernel
theorem d_Tree_blowsFrom_143 : decode prog_9_method_10_code 143 = .ok (.iadd, 1) := by decide +kernel
theorem d_Tree_blowsFrom_144 : decode prog_9_method_10_code 144 = .ok (.istore 15, 2) := by decide +kernel
theorem d_Tree_blowsFrom_146 : decode prog_9_method_10_code 146 = .ok (.lload 11, 2) := by decide +kernel
theorem d_Tree_blowsFrom_148 : decode prog_9_method_10_code 148 = .ok (.aload_n 0, 1) := by decide +kernel
theorem d_Tree_blowsFrom_149 : decode prog_9_method_10_code 149 = .ok (.aload_n 1, 1) := by decide +kernel
theorem d_Tree_blowsFrom_150 : decode prog_9_method_10_code 150 = .ok (.iload_n 2, 1) := by decide +kernel
theorem d_Tree_blowsFrom_151 : decode prog_9_method_10_code 151 = .ok (.iload_n 3, 1) := by decide +kernel
theorem d_Tree_blowsFrom_152 : decode prog_9_method_10_code 152 = .ok (.iconst 1, 1) := by decide +kernel
theorem d_Tree_blowsFrom_153 : decode prog_9_method_10_code 153 = .ok (.iadd, 1) := by decide +kernel
theorem d_Tree_blowsFrom_154 : decode prog_9_method_10_code 154 = .ok (.iload 15, 2) := by decide +kernel
theorem d_Tree_blowsFrom_156 : decode prog_9_method_10_code 156 = .ok (.iload 10, 2) := by decide +kernel
theorem d_Tree_blowsFrom_158 : decode prog_9_method_10_code 158 = .ok (.ifCond .eq 11, 3) := by decide +kernel
theorem d_Tree_blowsFrom_161 : decode prog_9_method_10_code 161 = .ok (.iload 13, 2) := by decide +kernel
theorem d_Tree_blowsFrom_163 : decode prog_9_method_10_code 163 = .ok (.bipush 6, 2) := by decide +kernel
theorem d_Tree_blowsFrom_165 : decode prog_9_method_10_code 165 = .ok (.iadd, 1) := by decide +kernel
theorem d_Tree_blowsFrom_166 : decode prog_9_method_10_code 166 = .ok (.goto 5, 3) := by decide +kernel
theorem d_Tree_blowsFrom_169 : decode prog_9_method_10_code 169 = .ok (.iload 13, 2) := by decide +kernel
theorem d_Tree_blowsFrom_171 : decode prog_9_method_10_code 171 = .ok (.iload 14, 2) := by decide +kernel
theorem d_Tree_blowsFrom_173 : decode prog_9_method_10_code 173 = .ok (.lload 7, 2) := by decide +kernel
theorem d_Tree_blowsFrom_175 : decode prog_9_method_10_code 175 = .ok (.ldc2_w 167, 3) := by decide +kernel
theorem d_Tree_blowsFrom_178 : decode prog_9_method_10_code 178 = .ok (.ldiv, 1) := by decide +kernel
theorem d_Tree_blowsFrom_179 : decode prog_9_method_10_code 179 = .ok (.invokevirtual 150, 3) := by decide +kernel
theorem d_Tree_blowsFrom_182 : decode prog_9_method_10_code 182 = .ok (.ladd, 1) := by decide +kernel
theorem d_Tree_blowsFrom_183 : decode prog_9_method_10_code 183 = .ok (.lstore 11, 2) := by decide +kernel
theorem d_Tree_blowsFrom_185 : decode prog_9_method_10_code 185 = .ok (.iinc 13 1, 3) := by decide +kernel
theorem d_Tree_blowsFrom_188 : decode prog_9_method_10_code 188 = .ok (.goto (-90), 3) := by decide +kernel
theorem d_Tree_blowsFrom_191 : decode prog_9_method_10_code 191 = .ok (.aload_n 0, 1) := by decide +kernel
theorem d_Tree_blowsFrom_192 : decode prog_9_method_10_code 192 = .ok (.getfield 25, 3) := by decide +kernel
theorem d_Tree_blowsFrom_195 : decode prog_9_method_10_code 195 = .ok (.iload 9, 2) := by decide +kernel
theorem d_Tree_blowsFrom_197 : decode prog_9_method_10_code 197 = .ok (.lload 7, 2) := by decide +kernel
theorem d_Tree_blowsFrom_199 : decode prog_9_method_10_code 199 = .ok (.lload 11, 2) := by decide +kernel
theorem d_Tree_blowsFrom_201 : decode prog_9_method_10_code 201 = .ok (.aload_n 0, 1) := by decide +kernel
theorem d_Tree_blowsFrom_202 : decode prog_9_method_10_code 202 = .ok (.ldc2_w 167, 3) := by decide +kernel
theorem d_Tree_blowsFrom_205 : decode prog_9_method_10_code 205 = .ok (.invokevirtual 109, 3) := by decide +kernel
theorem d_Tree_blowsFrom_208 : decode prog_9_method_10_code 208 = .ok (.lmul, 1) := by decide +kernel
theorem d_Tree_blowsFrom_209 : decode prog_9_method_10_code 209 = .ok (.ladd, 1) := by decide +kernel
theorem d_Tree_blowsFrom_210 : decode prog_9_method_10_code 210 = .ok (.lastore, 1) := by decide +kernel
theorem d_Tree_blowsFrom_211 : decode prog_9_method_10_code 211 = .ok (.aload_n 0, 1) := by decide +kernel
theorem d_Tree_blowsFrom_212 : decode prog_9_method_10_code 212 = .ok (.getfield 25, 3) := by decide +kernel
theorem d_Tree_blowsFrom_215 : decode prog_9_method_10_code 215 = .ok (.iload 9, 2) := by decide +kernel
theorem d_Tree_blowsFrom_217 : decode prog_9_method_10_code 217 = .ok (.laload, 1) := by decide +kernel
theorem d_Tree_blowsFrom_218 : decode prog_9_method_10_code 218 = .ok (.lreturn, 1) := by decide +kernel
theorem d_Tree_weighRules_0 : decode prog_9_method_8_code 0 = .ok (.iconst 1, 1) := by decide +kernel
theorem d_Tree_weighRules_1 : decode prog_9_method_8_code 1 = .ok (.aload_n 1, 1) := by decide +kernel
theorem d_Tree_weighRules_2 : decode prog_9_method_8_code 2 = .ok (.getfield 127, 3) := by decide +kernel
theorem d_Tree_weighRules_5 : decode prog_9_method_8_code 5 = .ok (.bipush 6, 2) := by decide +kernel
theorem d_Tree_weighRules_7 : decode prog_9_method_8_code 7 = .ok (.invokestatic 81, 3) := by decide +kernel
theorem d_Tree_weighRules_10 : decode prog_9_method_8_code 10 = .ok (.ishl, 1) := by decide +kernel
theorem d_Tree_weighRules_11 : decode prog_9_method_8_code 11 = .ok (.istore_n 3, 1) := by decide +kernel
theorem d_Tree_weighRules_12 : decode prog_9_method_8_code 12 = .ok (.aload_n 0, 1) := by decide +kernel
theorem d_Tree_weighRules_13 : decode prog_9_method_8_code 13 = .ok (.getfield 33, 3) := by decide +kernel
theorem d_Tree_weighRules_16 : decode prog_9_method_8_code 16 = .ok (.lconst 0, 1) := by decide +kernel
theorem d_Tree_weighRules_17 : decode prog_9_method_8_code 17 = .ok (.invokestatic 132, 3) := by decide +kernel
theorem d_Tree_weighRules_20 : decode prog_9_method_8_code 20 = .ok (.iconst 0, 1) := by decide +kernel
theorem d_Tree_weighRules_21 : decode prog_9_method_8_code 21 = .ok (.istore 4, 2) := by decide +kernel
theorem d_Tree_weighRules_23 : decode prog_9_method_8_code 23 = .ok (.iload 4, 2) := by decide +kernel
theorem d_Tree_weighRules_25 : decode prog_9_method_8_code 25 = .ok (.aload_n 1, 1) := by decide +kernel
theorem d_Tree_weighRules_26 : decode prog_9_method_8_code 26 = .ok (.getfield 138, 3) := by decide +kernel
theorem d_Tree_weighRules_29 : decode prog_9_method_8_code 29 = .ok (.if_icmp .ge 77, 3) := by decide +kernel
theorem d_Tree_weighRules_32 : decode prog_9_method_8_code 32 = .ok (.aload_n 0, 1) := by decide +kernel
theorem d_Tree_weighRules_33 : decode prog_9_method_8_code 33 = .ok (.getfield 14, 3) := by decide +kernel
theorem d_Tree_weighRules_36 : decode prog_9_method_8_code 36 = .ok (.aload_n 1, 1) := by decide +kernel
theorem d_Tree_weighRules_37 : decode prog_9_method_8_code 37 = .ok (.iload 4, 2) := by decide +kernel
theorem d_Tree_weighRules_39 : decode prog_9_method_8_code 39 = .ok (.aload_n 2, 1) := by decide +kernel
theorem d_Tree_weighRules_40 : decode prog_9_method_8_code 40 = .ok (.invokevirtual 141, 3) := by decide +kernel
theorem d_Tree_weighRules_43 : decode prog_9_method_8_code 43 = .ok (.aload_n 0, 1) := by decide +kernel
theorem d_Tree_weighRules_44 : decode prog_9_method_8_code 44 = .ok (.getfield 29, 3) := by decide +kernel
theorem d_Tree_weighRules_47 : decode prog_9_method_8_code 47 = .ok (.iconst (-1), 1) := by decide +kernel
theorem d_Tree_weighRules_48 : decode prog_9_method_8_code 48 = .ok (.invokestatic 145, 3) := by decide +kernel
theorem d_Tree_weighRules_51 : decode prog_9_method_8_code 51 = .ok (.iconst 0, 1) := by decide +kernel
theorem d_Tree_weighRules_52 : decode prog_9_method_8_code 52 = .ok (.istore 5, 2) := by decide +kernel
theorem d_Tree_weighRules_54 : decode prog_9_method_8_code 54 = .ok (.iload 5, 2) := by decide +kernel
theorem d_Tree_weighRules_56 : decode prog_9_method_8_code 56 = .ok (.iload_n 3, 1) := by decide +kernel
theorem d_Tree_weighRules_57 : decode prog_9_method_8_code 57 = .ok (.if_icmp .ge 43, 3) := by decide +kernel
theorem d_Tree_weighRules_60 : decode prog_9_method_8_code 60 = .ok (.aload_n 0, 1) := by decide +kernel
theorem d_Tree_weighRules_61 : decode prog_9_method_8_code 61 = .ok (.getfield 25, 3) := by decide +kernel
theorem d_Tree_weighRules_64 : decode prog_9_method_8_code 64 = .ok (.ldc2_w 148, 3) := by decide +kernel
theorem d_Tree_weighRules_67 : decode prog_9_method_8_code 67 = .ok (.invokestatic 132, 3) := by decide +kernel
theorem d_Tree_weighRules_70 : decode prog_9_method_8_code 70 = .ok (.aload_n 0, 1) := by decide +kernel
theorem d_Tree_weighRules_71 : decode prog_9_method_8_code 71 = .ok (.getfield 33, 3) := by decide +kernel
theorem d_Tree_weighRules_74 : decode prog_9_method_8_code 74 = .ok (.iload 5, 2) := by decide +kernel
theorem d_Tree_weighRules_76 : decode prog_9_method_8_code 76 = .ok (.dup2, 1) := by decide +kernel
theorem d_Tree_weighRules_77 : decode prog_9_method_8_code 77 = .ok (.laload, 1) := by decide +kernel
theorem d_Tree_weighRules_78 : decode prog_9_method_8_code 78 = .ok (.aload_n 0, 1) := by decide +kernel
theorem d_Tree_weighRules_79 : decode prog_9_method_8_code 79 = .ok (.aload_n 1, 1) := by decide +kernel
theorem d_Tree_weighRules_80 : decode prog_9_method_8_code 80 = .ok (.iload 5, 2) := by decide +kernel
theorem d_Tree_weighRules_82 : decode prog_9_method_8_code 82 = .ok (.iconst 0, 1) := by decide +kernel
theorem d_Tree_weighRules_83 : decode prog_9_method_8_code 83 = .ok (.iconst 0, 1) := by decide +kernel
theorem d_Tree_weighRules_84 : decode prog_9_method_8_code 84 = .ok (.iconst 0, 1) := by decide +kernel
theorem d_Tree_weighRules_85 : decode prog_9_method_8_code 85 = .ok (.iconst 0, 1) := by decide +kernel
theorem d_Tree_weighRules_86 : decode prog_9_method_8_code 86 = .ok (.ldc2_w 65, 3) := by decide +kernel
theorem d_Tree_weighRules_89 : decode prog_9_method_8_code 89 = .ok (.invokevirtual 150, 3) := by decide +kernel
theorem d_Tree_weighRules_92 : decode prog_9_method_8_code 92 = .ok (.ladd, 1) := by decide +kernel
theorem d_Tree_weighRules_93 : decode prog_9_method_8_code 93 = .ok (.lastore, 1) := by decide +kernel
theorem d_Tree_weighRules_94 : decode prog_9_method_8_code 94 = .ok (.iinc 5 1, 3) := by decide +kernel
theorem d_Tree_weighRules_97 : decode prog_9_method_8_code 97 = .ok (.goto (-43), 3) := by decide +kernel
theorem d_Tree_weighRules_100 : decode prog_9_method_8_code 100 = .ok (.iinc 4 1, 3) := by decide +kernel
theorem d_Tree_weighRules_103 : decode prog_9_method_8_code 103 = .ok (.goto (-80), 3) := by decide +kernel
theorem d_Tree_weighRules_106 : decode prog_9_method_8_code 106 = .ok (.aload_n 0, 1) := by decide +kernel
theorem d_Tree_weighRules_107 : decode prog_9_method_8_code 107 = .ok (.iconst 0, 1) := by decide +kernel
theorem d_Tree_weighRules_108 : decode prog_9_method_8_code 108 = .ok (.putfield 154, 3) := by decide +kernel
theorem d_Tree_weighRules_111 : decode prog_9_method_8_code 111 = .ok (.aload_n 0, 1) := by decide +kernel
theorem d_Tree_weighRules_112 : decode prog_9_method_8_code 112 = .ok (.aload_n 0, 1) := by decide +kernel
theorem d_Tree_weighRules_113 : decode prog_9_method_8_code 113 = .ok (.getfield 33, 3) := by decide +kernel
theorem d_Tree_weighRules_116 : decode prog_9_method_8_code 116 = .ok (.iconst 0, 1) := by decide +kernel
theorem d_Tree_weighRules_117 : decode prog_9_method_8_code 117 = .ok (.laload, 1) := by decide +kernel
theorem d_Tree_weighRules_118 : decode prog_9_method_8_code 118 = .ok (.putfield 67, 3) := by decide +kernel
theorem d_Tree_weighRules_121 : decode prog_9_method_8_code 121 = .ok (.iconst 1, 1) := by decide +kernel
theorem d_Tree_weighRules_122 : decode prog_9_method_8_code 122 = .ok (.istore 4, 2) := by decide +kernel
theorem d_Tree_weighRules_124 : decode prog_9_method_8_code 124 = .ok (.iload 4, 2) := by decide +kernel
theorem d_Tree_weighRules_126 : decode prog_9_method_8_code 126 = .ok (.iload_n 3, 1) := by decide +kernel
theorem d_Tree_weighRules_127 : decode prog_9_method_8_code 127 = .ok (.if_icmp .ge 41, 3) := by decide +kernel
theorem d_Tree_weighRules_130 : decode prog_9_method_8_code 130 = .ok (.aload_n 0, 1) := by decide +kernel
theorem d_Tree_weighRules_131 : decode prog_9_method_8_code 131 = .ok (.getfield 33, 3) := by decide +kernel
theorem d_Tree_weighRules_134 : decode prog_9_method_8_code 134 = .ok (.iload 4, 2) := by decide +kernel
theorem d_Tree_weighRules_136 : decode prog_9_method_8_code 136 = .ok (.laload, 1) := by decide +kernel
theorem d_Tree_weighRules_137 : decode prog_9_method_8_code 137 = .ok (.aload_n 0, 1) := by decide +kernel
theorem d_Tree_weighRules_138 : decode prog_9_method_8_code 138 = .ok (.getfield 67, 3) := by decide +kernel
theorem d_Tree_weighRules_141 : decode prog_9_method_8_code 141 = .ok (.lcmp, 1) := by decide +kernel
theorem d_Tree_weighRules_142 : decode prog_9_method_8_code 142 = .ok (.ifCond .le 20, 3) := by decide +kernel
theorem d_Tree_weighRules_145 : decode prog_9_method_8_code 145 = .ok (.aload_n 0, 1) := by decide +kernel
theorem d_Tree_weighRules_146 : decode prog_9_method_8_code 146 = .ok (.iload 4, 2) := by decide +kernel
theorem d_Tree_weighRules_148 : decode prog_9_method_8_code 148 = .ok (.putfield 154, 3) := by decide +kernel
theorem d_Tree_weighRules_151 : decode prog_9_method_8_code 151 = .ok (.aload_n 0, 1) := by decide +kernel
theorem d_Tree_weighRules_152 : decode prog_9_method_8_code 152 = .ok (.aload_n 0, 1) := by decide +kernel
theorem d_Tree_weighRules_153 : decode prog_9_method_8_code 153 = .ok (.getfield 33, 3) := by decide +kernel
theorem d_Tree_weighRules_156 : decode prog_9_method_8_code 156 = .ok (.iload 4, 2) := by decide +kernel
theorem d_Tree_weighRules_158 : decode prog_9_method_8_code 158 = .ok (.laload, 1) := by decide +kernel
theorem d_Tree_weighRules_159 : decode prog_9_method_8_code 159 = .ok (.putfield 67, 3) := by decide +kernel
theorem d_Tree_weighRules_162 : decode prog_9_method_8_code 162 = .ok (.iinc 4 1, 3) := by decide +kernel
theorem d_Tree_weighRules_165 : decode prog_9_method_8_code 165 = .ok (.goto (-41), 3) := by decide +kernel
theorem d_Tree_weighRules_168 : decode prog_9_method_8_code 168 = .ok (.return_, 1) := by decide +kernel
theorem d_Tree_winnerLeaves_0 : decode prog_9_method_4_code 0 = .ok (.aload_n 0, 1) := by decide +kernel
theorem d_Tree_winnerLeaves_1 : decode prog_9_method_4_code 1 = .ok (.getfield 67, 3) := by decide +kernel
theorem d_Tree_winnerLeaves_4 : decode prog_9_method_4_code 4 = .ok (.iload_n 1, 1) := by decide +kernel
theorem d_Tree_winnerLeaves_5 : decode prog_9_method_4_code 5 = .ok (.i2l, 1) := by decide +kernel
theorem d_Tree_winnerLeaves_6 : decode prog_9_method_4_code 6 = .ok (.lmul, 1) := by decide +kernel
theorem d_Tree_winnerLeaves_7 : decode prog_9_method_4_code 7 = .ok (.invokestatic 40, 3) := by decide +kernel
theorem d_Tree_winnerLeaves_10 : decode prog_9_method_4_code 10 = .ok (.ireturn, 1) := by decide +kernel
theorem d_BH_best_0 : decode prog_1_method_16_code 0 = .ok (.iload_n 1, 1) := by decide +kernel
theorem d_BH_best_1 : decode prog_1_method_16_code 1 = .ok (.ifCond .eq 10, 3) := by decide +kernel
theorem d_BH_best_4 : decode prog_1_method_16_code 4 = .ok (.iload_n 1, 1) := by decide +kernel
theorem d_BH_best_5 : decode prog_1_method_16_code 5 = .ok (.iconst 1, 1) := by decide +kernel
theorem d_BH_best_6 : decode prog_1_method_16_code 6 = .ok (.if_icmp .eq 5, 3) := by decide +kernel
theorem d_BH_best_9 : decode prog_1_method_16_code 9 = .ok (.iconst (-1), 1) := by decide +kernel
theorem d_BH_best_10 : decode prog_1_method_16_code 10 = .ok (.ireturn, 1) := by decide +kernel
theorem d_BH_best_11 : decode prog_1_method_16_code 11 = .ok (.aload_n 0, 1) := by decide +kernel
theorem d_BH_best_12 : decode prog_1_method_16_code 12 = .ok (.getfield 47, 3) := by decide +kernel
theorem d_BH_best_15 : decode prog_1_method_16_code 15 = .ok (.aload_n 0, 1) := by decide +kernel
theorem d_BH_best_16 : decode prog_1_method_16_code 16 = .ok (.getfield 54, 3) := by decide +kernel
theorem d_BH_best_19 : decode prog_1_method_16_code 19 = .ok (.aload_n 0, 1) := by decide +kernel
theorem d_BH_best_20 : decode prog_1_method_16_code 20 = .ok (.getfield 26, 3) := by decide +kernel
theorem d_BH_best_23 : decode prog_1_method_16_code 23 = .ok (.getfield 114, 3) := by decide +kernel
theorem d_BH_best_26 : decode prog_1_method_16_code 26 = .ok (.invokevirtual 199, 3) := by decide +kernel
theorem d_BH_best_29 : decode prog_1_method_16_code 29 = .ok (.iload_n 1, 1) := by decide +kernel
theorem d_BH_best_30 : decode prog_1_method_16_code 30 = .ok (.ifCond .ne 13, 3) := by decide +kernel
theorem d_BH_best_33 : decode prog_1_method_16_code 33 = .ok (.aload_n 0, 1) := by decide +kernel
theorem d_BH_best_34 : decode prog_1_method_16_code 34 = .ok (.getfield 47, 3) := by decide +kernel
theorem d_BH_best_37 : decode prog_1_method_16_code 37 = .ok (.getfield 203, 3) := by decide +kernel
theorem d_BH_best_40 : decode prog_1_method_16_code 40 = .ok (.goto 19, 3) := by decide +kernel
theorem d_BH_best_43 : decode prog_1_method_16_code 43 = .ok (.aload_n 0, 1) := by decide +kernel
theorem d_BH_best_44 : decode prog_1_method_16_code 44 = .ok (.getfield 47, 3) := by decide +kernel
theorem d_BH_best_47 : decode prog_1_method_16_code 47 = .ok (.aload_n 0, 1) := by decide +kernel
theorem d_BH_best_48 : decode prog_1_method_16_code 48 = .ok (.getfield 26, 3) := by decide +kernel
theorem d_BH_best_51 : decode prog_1_method_16_code 51 = .ok (.getfield 114, 3) := by decide +kernel
theorem d_BH_best_54 : decode prog_1_method_16_code 54 = .ok (.iconst 2, 1) := by decide +kernel
theorem d_BH_best_55 : decode prog_1_method_16_code 55 = .ok (.iaload, 1) := by decide +kernel
theorem d_BH_best_56 : decode prog_1_method_16_code 56 = .ok (.invokevirtual 206, 3) := by decide +kernel
theorem d_BH_best_59 : decode prog_1_method_16_code 59 = .ok (.ireturn, 1) := by decide +kernel
theorem d_Tree_weighBells_0 : decode prog_9_method_9_code 0 = .ok (.aload_n 0, 1) := by decide +kernel
theorem d_Tree_weighBells_1 : decode prog_9_method_9_code 1 = .ok (.iconst (-1), 1) := by decide +kernel
theorem d_Tree_weighBells_2 : decode prog_9_method_9_code 2 = .ok (.putfield 154, 3) := by decide +kernel
theorem d_Tree_weighBells_5 : decode prog_9_method_9_code 5 = .ok (.aload_n 0, 1) := by decide +kernel
theorem d_Tree_weighBells_6 : decode prog_9_method_9_code 6 = .ok (.ldc2_w 148, 3) := by decide +kernel
theorem d_Tree_weighBells_9 : decode prog_9_method_9_code 9 = .ok (.putfield 67, 3) := by decide +kernel
theorem d_Tree_weighBells_12 : decode prog_9_method_9_code 12 = .ok (.iconst 1, 1) := by decide +kernel
theorem d_Tree_weighBells_13 : decode prog_9_method_9_code 13 = .ok (.istore_n 3, 1) := by decide +kernel
theorem d_Tree_weighBells_14 : decode prog_9_method_9_code 14 = .ok (.iload_n 3, 1) := by decide +kernel
theorem d_Tree_weighBells_15 : decode prog_9_method_9_code 15 = .ok (.bipush 99, 2) := by decide +kernel
theorem d_Tree_weighBells_17 : decode prog_9_method_9_code 17 = .ok (.if_icmp .gt 98, 3) := by decide +kernel
theorem d_Tree_weighBells_20 : decode prog_9_method_9_code 20 = .ok (.lconst 0, 1) := by decide +kernel
theorem d_Tree_weighBells_21 : decode prog_9_method_9_code 21 = .ok (.lstore 4, 2) := by decide +kernel
theorem d_Tree_weighBells_23 : decode prog_9_method_9_code 23 = .ok (.iconst 0, 1) := by decide +kernel
theorem d_Tree_weighBells_24 : decode prog_9_method_9_code 24 = .ok (.istore 6, 2) := by decide +kernel
theorem d_Tree_weighBells_26 : decode prog_9_method_9_code 26 = .ok (.iload 6, 2) := by decide +kernel
theorem d_Tree_weighBells_28 : decode prog_9_method_9_code 28 = .ok (.aload_n 1, 1) := by decide +kernel
theorem d_Tree_weighBells_29 : decode prog_9_method_9_code 29 = .ok (.getfield 138, 3) := by decide +kernel
theorem d_Tree_weighBells_32 : decode prog_9_method_9_code 32 = .ok (.if_icmp .ge 56, 3) := by decide +kernel
theorem d_Tree_weighBells_35 : decode prog_9_method_9_code 35 = .ok (.aload_n 0, 1) := by decide +kernel
theorem d_Tree_weighBells_36 : decode prog_9_method_9_code 36 = .ok (.getfield 14, 3) := by decide +kernel
theorem d_Tree_weighBells_39 : decode prog_9_method_9_code 39 = .ok (.aload_n 1, 1) := by decide +kernel
theorem d_Tree_weighBells_40 : decode prog_9_method_9_code 40 = .ok (.iload 6, 2) := by decide +kernel
theorem d_Tree_weighBells_42 : decode prog_9_method_9_code 42 = .ok (.aload_n 2, 1) := by decide +kernel
theorem d_Tree_weighBells_43 : decode prog_9_method_9_code 43 = .ok (.invokevirtual 141, 3) := by decide +kernel
theorem d_Tree_weighBells_46 : decode prog_9_method_9_code 46 = .ok (.aload_n 0, 1) := by decide +kernel
theorem d_Tree_weighBells_47 : decode prog_9_method_9_code 47 = .ok (.getfield 14, 3) := by decide +kernel
theorem d_Tree_weighBells_50 : decode prog_9_method_9_code 50 = .ok (.iload_n 3, 1) := by decide +kernel
theorem d_Tree_weighBells_51 : decode prog_9_method_9_code 51 = .ok (.putfield 157, 3) := by decide +kernel
theorem d_Tree_weighBells_54 : decode prog_9_method_9_code 54 = .ok (.aload_n 0, 1) := by decide +kernel
theorem d_Tree_weighBells_55 : decode prog_9_method_9_code 55 = .ok (.getfield 25, 3) := by decide +kernel
theorem d_Tree_weighBells_58 : decode prog_9_method_9_code 58 = .ok (.ldc2_w 148, 3) := by decide +kernel
theorem d_Tree_weighBells_61 : decode prog_9_method_9_code 61 = .ok (.invokestatic 132, 3) := by decide +kernel
theorem d_Tree_weighBells_64 : decode prog_9_method_9_code 64 = .ok (.lload 4, 2) := by decide +kernel
theorem d_Tree_weighBells_66 : decode prog_9_method_9_code 66 = .ok (.aload_n 0, 1) := by decide +kernel
theorem d_Tree_weighBells_67 : decode prog_9_method_9_code 67 = .ok (.aload_n 1, 1) := by decide +kernel
theorem d_Tree_weighBells_68 : decode prog_9_method_9_code 68 = .ok (.iconst 0, 1) := by decide +kernel
theorem d_Tree_weighBells_69 : decode prog_9_method_9_code 69 = .ok (.iconst 0, 1) := by decide +kernel
theorem d_Tree_weighBells_70 : decode prog_9_method_9_code 70 = .ok (.iconst 0, 1) := by decide +kernel
theorem d_Tree_weighBells_71 : decode prog_9_method_9_code 71 = .ok (.iconst 0, 1) := by decide +kernel
theorem d_Tree_weighBells_72 : decode prog_9_method_9_code 72 = .ok (.iconst 0, 1) := by decide +kernel
theorem d_Tree_weighBells_73 : decode prog_9_method_9_code 73 = .ok (.ldc2_w 65, 3) := by decide +kernel
theorem d_Tree_weighBells_76 : decode prog_9_method_9_code 76 = .ok (.invokevirtual 150, 3) := by decide +kernel
theorem d_Tree_weighBells_79 : decode prog_9_method_9_code 79 = .ok (.ladd, 1) := by decide +kernel
theorem d_Tree_weighBells_80 : decode prog_9_method_9_code 80 = .ok (.lstore 4, 2) := by decide +kernel
theorem d_Tree_weighBells_82 : decode prog_9_method_9_code 82 = .ok (.iinc 6 1, 3) := by decide +kernel
theorem d_Tree_weighBells_85 : decode prog_9_method_9_code 85 = .ok (.goto (-59), 3) := by decide +kernel
theorem d_Tree_weighBells_88 : decode prog_9_method_9_code 88 = .ok (.lload 4, 2) := by decide +kernel
theorem d_Tree_weighBells_90 : decode prog_9_method_9_code 90 = .ok (.aload_n 0, 1) := by decide +kernel
theorem d_Tree_weighBells_91 : decode prog_9_method_9_code 91 = .ok (.getfield 67, 3) := by decide +kernel
theorem d_Tree_weighBells_94 : decode prog_9_method_9_code 94 = .ok (.lcmp, 1) := by decide +kernel
theorem d_Tree_weighBells_95 : decode prog_9_method_9_code 95 = .ok (.ifCond .le 14, 3) := by decide +kernel
theorem d_Tree_weighBells_98 : decode prog_9_method_9_code 98 = .ok (.aload_n 0, 1) := by decide +kernel
theorem d_Tree_weighBells_99 : decode prog_9_method_9_code 99 = .ok (.iload_n 3, 1) := by decide +kernel
theorem d_Tree_weighBells_100 : decode prog_9_method_9_code 100 = .ok (.putfield 154, 3) := by decide +kernel
theorem d_Tree_weighBells_103 : decode prog_9_method_9_code 103 = .ok (.aload_n 0, 1) := by decide +kernel
theorem d_Tree_weighBells_104 : decode prog_9_method_9_code 104 = .ok (.lload 4, 2) := by decide +kernel
theorem d_Tree_weighBells_106 : decode prog_9_method_9_code 106 = .ok (.putfield 67, 3) := by decide +kernel
theorem d_Tree_weighBells_109 : decode prog_9_method_9_code 109 = .ok (.iinc 3 1, 3) := by decide +kernel
theorem d_Tree_weighBells_112 : decode prog_9_method_9_code 112 = .ok (.goto (-98), 3) := by decide +kernel
theorem d_Tree_weighBells_115 : decode prog_9_method_9_code 115 = .ok (.return_, 1) := by decide +kernel
def f_Tree_goOn_256 (kG : Int32 → Int32 → Int32 → Int32 → Int64 → Int32 → St → Option (St)) (k160 : Int32 → Int32 → Int32 → Int32 → Int32 → Int64 → Int32 → St → Option (St)) (x2 : Int32) (x3 : Int32) (x4 : Int32) (x8 : Int32) (x9 : Int32) (x10 : Int64) (x12 : Int32) (t0 : Int32) (t1 : Int64) (t2 : Int32) (t3 : Int32) (t4 : Int32) (t5 : Int32) (σ : St) : Option (St) :=
  bp (kG t5 t4 t3 t2 t1 t0 σ) fun σ_2 =>
  lt ((x12 + 1)) fun x_3 =>
  k160 x2 x3 x4 x8 x9 x10 x_3 σ_2
def f_Tree_goOn_251 (kG : Int32 → Int32 → Int32 → Int32 → Int64 → Int32 → St → Option (St)) (k160 : Int32 → Int32 → Int32 → Int32 → Int32 → Int64 → Int32 → St → Option (St)) (x2 : Int32) (x3 : Int32) (x4 : Int32) (x8 : Int32) (x9 : Int32) (x10 : Int64) (x12 : Int32) (t0 : Int64) (t1 : Int32) (t2 : Int32) (t3 : Int32) (t4 : Int32) (σ : St) : Option (St) :=
  f_Tree_goOn_256 kG k160 x2 x3 x4 x8 x9 x10 x12 1 t0 t1 t2 t3 t4 σ
def f_Tree_goOn_209 (kG : Int32 → Int32 → Int32 → Int32 → Int64 → Int32 → St → Option (St)) (k160 : Int32 → Int32 → Int32 → Int32 → Int32 → Int64 → Int32 → St → Option (St)) (x2 : Int32) (x3 : Int32) (x4 : Int32) (x8 : Int32) (x9 : Int32) (x10 : Int64) (x12 : Int32) (x13 : Int32) (σ : St) : Option (St) :=
  bp (f_Turn_brings x13 σ) fun r_2 =>
  lt ((iMin 999 (x4 + r_2))) fun x_3 =>
  if x8 = 0 then
    if x9 = 0 then
      f_Tree_goOn_256 kG k160 x2 x3 x4 x8 x9 x10 x12 0 x10 x13 x_3 (x3 + 1) x2 σ
    else
      f_Tree_goOn_251 kG k160 x2 x3 x4 x8 x9 x10 x12 x10 x13 x_3 (x3 + 1) x2 σ
  else
    f_Tree_goOn_251 kG k160 x2 x3 x4 x8 x9 x10 x12 x10 x13 x_3 (x3 + 1) x2 σ
def f_Tree_goOn_160b (kG : Int32 → Int32 → Int32 → Int32 → Int64 → Int32 → St → Option (St)) (k160 : Int32 → Int32 → Int32 → Int32 → Int32 → Int64 → Int32 → St → Option (St)) (x2 : Int32) (x3 : Int32) (x4 : Int32) (x8 : Int32) (x9 : Int32) (x10 : Int64) (x12 : Int32) (σ : St) : Option (St) :=
  if (sI σ 41) < x12 then
    some σ
  else
    bp (f_Turn_height_2 x3 x12 x9 σ) fun r_2 =>
    bp (f_Turn_isRing r_2 σ) fun r_4 =>
    if r_4 = 0 then
      f_Tree_goOn_209 kG k160 x2 x3 x4 x8 x9 x10 x12 r_2 σ
    else
      lt (uJ σ 0 ((sJ σ 0) + x10)) fun σ_5 =>
      f_Tree_goOn_209 kG k160 x2 x3 x4 x8 x9 x10 x12 r_2 σ_5
def f_Tree_goOn_160 (kG : Int32 → Int32 → Int32 → Int32 → Int64 → Int32 → St → Option (St)) : Nat → Int32 → Int32 → Int32 → Int32 → Int32 → Int64 → Int32 → St → Option (St)
  | 0 => fun _ _ _ _ _ _ _ _ => none
  | n + 1 => f_Tree_goOn_160b kG  (f_Tree_goOn_160 kG  n)
def f_Tree_goOn_149 (kG : Int32 → Int32 → Int32 → Int32 → Int64 → Int32 → St → Option (St)) (x2 : Int32) (x3 : Int32) (x4 : Int32) (x6 : Int64) (x8 : Int32) (x9 : Int32) (σ : St) : Option (St) :=
  bp (f_Tree_shareOf x6 σ) fun r_2 =>
  f_Tree_goOn_160 kG FU x2 x3 x4 x8 x9 r_2 0 σ
def f_Tree_goOn_115 (kG : Int32 → Int32 → Int32 → Int32 → Int64 → Int32 → St → Option (St)) (x2 : Int32) (x3 : Int32) (x4 : Int32) (x6 : Int64) (x8 : Int32) (t0 : Int32) (σ : St) : Option (St) :=
  lt (uJ σ 1 ((sJ σ 1) + x6)) fun σ_1 =>
  if t0 = 0 then
    f_Tree_goOn_149 kG x2 x3 x4 x6 x8 t0 σ_1
  else
    if x8 = 0 then
      lt (uJ σ_1 2 ((sJ σ_1 2) + x6)) fun σ_2 =>
      f_Tree_goOn_149 kG x2 x3 x4 x6 x8 t0 σ_2
    else
      f_Tree_goOn_149 kG x2 x3 x4 x6 x8 t0 σ_1
def f_Tree_goOn_114 (kG : Int32 → Int32 → Int32 → Int32 → Int64 → Int32 → St → Option (St)) (x2 : Int32) (x3 : Int32) (x4 : Int32) (x6 : Int64) (x8 : Int32) (σ : St) : Option (St) :=
  f_Tree_goOn_115 kG x2 x3 x4 x6 x8 0 σ
def f_Tree_goOn_18 (kG : Int32 → Int32 → Int32 → Int32 → Int64 → Int32 → St → Option (St)) (x3 : Int32) (x4 : Int32) (x6 : Int64) (σ : St) : Option (St) :=
  lt (uI σ 37 (iMin (sI σ 37) x3)) fun σ_1 =>
  lt (uI σ_1 38 (iMax (sI σ_1 38) x3)) fun σ_2 =>
  lt (uJ σ_2 3 ((sJ σ_2 3) + (x6 * (x4).toInt64))) fun σ_3 =>
  some σ_3
def f_Tree_goOnB (kG : Int32 → Int32 → Int32 → Int32 → Int64 → Int32 → St → Option (St)) (x2 : Int32) (x3 : Int32) (x4 : Int32) (x5 : Int32) (x6 : Int64) (x8 : Int32) (σ : St) : Option (St) :=
  if 4 ≤ x3 then
    f_Tree_goOn_18 kG x3 x4 x6 σ
  else
    bp (f_Turn_goesOn x3 x5 σ) fun r_2 =>
    if r_2 = 0 then
      f_Tree_goOn_18 kG x3 x4 x6 σ
    else
      bp (f_Showman_look_2 x4 x3 x5 0 σ) fun σ_4 =>
      bp (f_Turn_coinsBehind x3 σ_4) fun r_6 =>
      bp (f_Showman_lookAt_2 (sI σ_4 45) r_6 σ_4) fun σ_8 =>
      if x2 = 0 then
        f_Tree_goOn_114 kG x2 x3 x4 x6 x8 σ_8
      else
        bd (f_Showman_rulesThatHold_2 σ_8) fun r_10 σ_11 =>
        if (r_10 &&& x2) = 0 then
          f_Tree_goOn_114 kG x2 x3 x4 x6 x8 σ_11
        else
          f_Tree_goOn_115 kG x2 x3 x4 x6 x8 1 σ_11
def f_Tree_goOn : Nat → Int32 → Int32 → Int32 → Int32 → Int64 → Int32 → St → Option (St)
  | 0 => fun _ _ _ _ _ _ _ => none
  | d + 1 => f_Tree_goOnB (f_Tree_goOn d)
set_option maxHeartbeats 4000000 in
set_option maxRecDepth 20000 in
theorem t_Tree_goOn_256 {σ2 : St} (C : Cx g A p s m av meth c prog_9_method_6_code 15 "BellHammer$Tree" none) {nk : Nat} (hnk : 4 ≤ nk) {kG : Int32 → Int32 → Int32 → Int32 → Int64 → Int32 → St → Option (St)} (hkG : ∀ (a1 : Int32) (a2 : Int32) (a3 : Int32) (a4 : Int32) (a5 : Int64) (a6 : Int32) (σ : St) (σ2 : St), kG a1 a2 a3 a4 a5 a6 σ = some σ2 → KK l y_Tree_goOn prog_9_method_6_code 15 none nk g (wX g q) σ [.ref (q 25), .ref (q 34), .int a1, .int a2, .int a3, .int a4, .long a5, .int a6] none (wX g q) σ2) {k160 : Int32 → Int32 → Int32 → Int32 → Int32 → Int64 → Int32 → St → Option (St)} (hk160 : ∀ (x2 : Int32) (x3 : Int32) (x4 : Int32) (x8 : Int32) (x9 : Int32) (x10 : Int64) (x12 : Int32) (σ : St) (H : Heap) (locs : List Loc) (ls : Array Slot), k160 x2 x3 x4 x8 x9 x10 x12 σ = some σ2 → Wd g (wX g q) A s σ H locs → lv_has ls 15 [(0, .ref (q 25)), (1, .ref (q 34)), (2, .int x2), (3, .int x3), (4, .int x4), (8, .int x8), (9, .int x9), (10, .long x10), (12, .int x12)] → WK p l e s m av below meth c (nk + 2) g (wX g q) A none σ2 H locs (F0 m 160 ls []))  {x2 : Int32} {x3 : Int32} {x4 : Int32} {x8 : Int32} {x9 : Int32} {x10 : Int64} {x12 : Int32} {t0 : Int32} {t1 : Int64} {t2 : Int32} {t3 : Int32} {t4 : Int32} {t5 : Int32} {σ : St} {H : Heap} {locs : List Loc} {ls : Array Slot} (hf : f_Tree_goOn_256 kG k160 x2 x3 x4 x8 x9 x10 x12 t0 t1 t2 t3 t4 t5 σ = some σ2) (w : Wd g (wX g q) A s σ H locs) (hl : lv_has ls 15 [(0, .ref (q 25)), (1, .ref (q 34)), (2, .int x2), (3, .int x3), (4, .int x4), (8, .int x8), (9, .int x9), (10, .long x10), (12, .int x12)]) : WK p l e s m av below meth c (nk + 2) g (wX g q) A none σ2 H locs (F0 m 256 ls [.int t0, .long t1, .int t2, .int t3, .int t4, .int t5, .ref (q 34), .ref (q 25)]) := by
  obtain ⟨hx, hb, hml, hown, hts, hK, hA, hZ, hlocks, hr, hN⟩ := id C
  unfold f_Tree_goOn_256 at hf
  obtain ⟨σ_2, h_1, hf⟩ := bp_e hf
  refine k_callV (As := [.ref (q 34), .int t5, .int t4, .int t3, .int t2, .long t1, .int t0]) (rest := []) C w (hkG _ _ _ _ _ _ _ _ h_1) cv_Tree_goOn k846 (xr_25 C w) (by omega) hl.1 rfl (Nat.le_of_ble_eq_true rfl) d_Tree_goOn_256 (fun H locs w => ?_)
  show WK p l e s m av below meth c (nk + 2) g (wX g q) A none σ2 H locs (F0 m 259 ls [])
  obtain ⟨x_3, ex_3⟩ : ∃ y : Int32, y = (x12 + 1) := ⟨_, rfl⟩
  have hf := lt_e ex_3 hf
  refine lv_iinc (v := x_3) (lv' := [(12, .int x_3), (0, .ref (q 25)), (1, .ref (q 34)), (2, .int x2), (3, .int x3), (4, .int x4), (8, .int x8), (9, .int x9), (10, .long x10)]) hx hb d_Tree_goOn_259 hl (k := 8) rfl (by rw [ex_3]; rfl) (by decide) rfl (fun ls hl => ?_)
  refine lv_goto (tgt := 160) hx hb d_Tree_goOn_262 (by decide) ?_
  exact hk160 x2 x3 x4 x8 x9 x10 x_3 σ_2 _ _ _ hf w (lv_sub hl [1, 2, 3, 4, 5, 6, 7, 8, 0] rfl)
set_option maxHeartbeats 4000000 in
set_option maxRecDepth 20000 in
theorem t_Tree_goOn_251 {σ2 : St} (C : Cx g A p s m av meth c prog_9_method_6_code 15 "BellHammer$Tree" none) {nk : Nat} (hnk : 4 ≤ nk) {kG : Int32 → Int32 → Int32 → Int32 → Int64 → Int32 → St → Option (St)} (hkG : ∀ (a1 : Int32) (a2 : Int32) (a3 : Int32) (a4 : Int32) (a5 : Int64) (a6 : Int32) (σ : St) (σ2 : St), kG a1 a2 a3 a4 a5 a6 σ = some σ2 → KK l y_Tree_goOn prog_9_method_6_code 15 none nk g (wX g q) σ [.ref (q 25), .ref (q 34), .int a1, .int a2, .int a3, .int a4, .long a5, .int a6] none (wX g q) σ2) {k160 : Int32 → Int32 → Int32 → Int32 → Int32 → Int64 → Int32 → St → Option (St)} (hk160 : ∀ (x2 : Int32) (x3 : Int32) (x4 : Int32) (x8 : Int32) (x9 : Int32) (x10 : Int64) (x12 : Int32) (σ : St) (H : Heap) (locs : List Loc) (ls : Array Slot), k160 x2 x3 x4 x8 x9 x10 x12 σ = some σ2 → Wd g (wX g q) A s σ H locs → lv_has ls 15 [(0, .ref (q 25)), (1, .ref (q 34)), (2, .int x2), (3, .int x3), (4, .int x4), (8, .int x8), (9, .int x9), (10, .long x10), (12, .int x12)] → WK p l e s m av below meth c (nk + 2) g (wX g q) A none σ2 H locs (F0 m 160 ls []))  {x2 : Int32} {x3 : Int32} {x4 : Int32} {x8 : Int32} {x9 : Int32} {x10 : Int64} {x12 : Int32} {t0 : Int64} {t1 : Int32} {t2 : Int32} {t3 : Int32} {t4 : Int32} {σ : St} {H : Heap} {locs : List Loc} {ls : Array Slot} (hf : f_Tree_goOn_251 kG k160 x2 x3 x4 x8 x9 x10 x12 t0 t1 t2 t3 t4 σ = some σ2) (w : Wd g (wX g q) A s σ H locs) (hl : lv_has ls 15 [(0, .ref (q 25)), (1, .ref (q 34)), (2, .int x2), (3, .int x3), (4, .int x4), (8, .int x8), (9, .int x9), (10, .long x10), (12, .int x12)]) : WK p l e s m av below meth c (nk + 2) g (wX g q) A none σ2 H locs (F0 m 251 ls [.long t0, .int t1, .int t2, .int t3, .int t4, .ref (q 34), .ref (q 25)]) := by
  obtain ⟨hx, hb, hml, hown, hts, hK, hA, hZ, hlocks, hr, hN⟩ := id C
  unfold f_Tree_goOn_251 at hf
  refine lv_iconst (v := 1) hx hb d_Tree_goOn_251 (by decide) ?_
  refine lv_goto (tgt := 256) hx hb d_Tree_goOn_252 (by decide) ?_
  exact t_Tree_goOn_256 C hnk hkG hk160 hf w (lv_sub hl [0, 1, 2, 3, 4, 5, 6, 7, 8] rfl)
set_option maxHeartbeats 4000000 in
set_option maxRecDepth 20000 in
theorem t_Tree_goOn_209 {σ2 : St} (C : Cx g A p s m av meth c prog_9_method_6_code 15 "BellHammer$Tree" none) {nk : Nat} (hnk : 4 ≤ nk) {kG : Int32 → Int32 → Int32 → Int32 → Int64 → Int32 → St → Option (St)} (hkG : ∀ (a1 : Int32) (a2 : Int32) (a3 : Int32) (a4 : Int32) (a5 : Int64) (a6 : Int32) (σ : St) (σ2 : St), kG a1 a2 a3 a4 a5 a6 σ = some σ2 → KK l y_Tree_goOn prog_9_method_6_code 15 none nk g (wX g q) σ [.ref (q 25), .ref (q 34), .int a1, .int a2, .int a3, .int a4, .long a5, .int a6] none (wX g q) σ2) {k160 : Int32 → Int32 → Int32 → Int32 → Int32 → Int64 → Int32 → St → Option (St)} (hk160 : ∀ (x2 : Int32) (x3 : Int32) (x4 : Int32) (x8 : Int32) (x9 : Int32) (x10 : Int64) (x12 : Int32) (σ : St) (H : Heap) (locs : List Loc) (ls : Array Slot), k160 x2 x3 x4 x8 x9 x10 x12 σ = some σ2 → Wd g (wX g q) A s σ H locs → lv_has ls 15 [(0, .ref (q 25)), (1, .ref (q 34)), (2, .int x2), (3, .int x3), (4, .int x4), (8, .int x8), (9, .int x9), (10, .long x10), (12, .int x12)] → WK p l e s m av below meth c (nk + 2) g (wX g q) A none σ2 H locs (F0 m 160 ls []))  {x2 : Int32} {x3 : Int32} {x4 : Int32} {x8 : Int32} {x9 : Int32} {x10 : Int64} {x12 : Int32} {x13 : Int32} {σ : St} {H : Heap} {locs : List Loc} {ls : Array Slot} (hf : f_Tree_goOn_209 kG k160 x2 x3 x4 x8 x9 x10 x12 x13 σ = some σ2) (w : Wd g (wX g q) A s σ H locs) (hl : lv_has ls 15 [(0, .ref (q 25)), (1, .ref (q 34)), (2, .int x2), (3, .int x3), (4, .int x4), (8, .int x8), (9, .int x9), (10, .long x10), (12, .int x12), (13, .int x13)]) : WK p l e s m av below meth c (nk + 2) g (wX g q) A none σ2 H locs (F0 m 209 ls []) := by
  obtain ⟨hx, hb, hml, hown, hts, hK, hA, hZ, hlocks, hr, hN⟩ := id C
  unfold f_Tree_goOn_209 at hf
  refine lv_sipush (v := 999) hx hb d_Tree_goOn_209 (by decide) ?_
  refine lv_iload hx hb d_Tree_goOn_212 (lv_at hl 4 rfl) ?_
  refine lv_aload_n hx hb d_Tree_goOn_214 rfl (lv_at hl 0 rfl) ?_
  refine xg_25_turn C w k462 d_Tree_goOn_215 ?_
  refine lv_iload hx hb d_Tree_goOn_218 (lv_at hl 9 rfl) ?_
  obtain ⟨r_2, h_1, hf⟩ := bp_e hf
  refine k_callV (As := [.int x13]) (rest := [.int x4, .int 999]) C w (c_Turn_brings (q := q) h_1) cv_Turn_brings k874 (xr_26 C w) (by omega) hl.1 rfl (Nat.le_of_ble_eq_true rfl) d_Tree_goOn_220 (fun H locs w => ?_)
  show WK p l e s m av below meth c (nk + 2) g (wX g q) A none σ2 H locs (F0 m 223 ls [.int r_2, .int x4, .int 999])
  refine lv_iadd hx hb d_Tree_goOn_223 ?_
  refine r_min C hl.1 (by omega) (Nat.le_of_ble_eq_true rfl) k862 d_Tree_goOn_224 ?_
  refine lv_topi (fun x_3 ex_3 => ?_)
  have hf := lt_e ex_3 hf
  refine lv_istore (lv' := [(14, .int x_3), (0, .ref (q 25)), (1, .ref (q 34)), (2, .int x2), (3, .int x3), (4, .int x4), (8, .int x8), (9, .int x9), (10, .long x10), (12, .int x12), (13, .int x13)]) hx hb d_Tree_goOn_227 hl (by decide) rfl (fun ls hl => ?_)
  refine lv_aload_n hx hb d_Tree_goOn_229 rfl (lv_at hl 1 rfl) ?_
  refine lv_aload_n hx hb d_Tree_goOn_230 rfl (lv_at hl 2 rfl) ?_
  refine lv_iload_n hx hb d_Tree_goOn_231 rfl (lv_at hl 3 rfl) ?_
  refine lv_iload_n hx hb d_Tree_goOn_232 rfl (lv_at hl 4 rfl) ?_
  refine lv_iconst (v := 1) hx hb d_Tree_goOn_233 (by decide) ?_
  refine lv_iadd hx hb d_Tree_goOn_234 ?_
  refine lv_iload hx hb d_Tree_goOn_235 (lv_at hl 0 rfl) ?_
  refine lv_iload hx hb d_Tree_goOn_237 (lv_at hl 10 rfl) ?_
  refine lv_lload hx hb d_Tree_goOn_239 (lv_at hl 8 rfl) ?_
  refine lv_iload hx hb d_Tree_goOn_241 (lv_at hl 6 rfl) ?_
  refine lv_if_ne (tgt := 251) hx hb d_Tree_goOn_243 (by decide) (fun cd => ?_) (fun cd => ?_)
  · have hf := if_e cd hf
    exact t_Tree_goOn_251 C hnk hkG hk160 hf w (lv_sub hl [1, 2, 3, 4, 5, 6, 7, 8, 9] rfl)
  · have hf := it_e cd hf
    refine lv_iload hx hb d_Tree_goOn_246 (lv_at hl 7 rfl) ?_
    refine lv_if_eq (tgt := 255) hx hb d_Tree_goOn_248 (by decide) (fun cd => ?_) (fun cd => ?_)
    · have hf := it_e cd hf
      refine lv_iconst (v := 0) hx hb d_Tree_goOn_255 (by decide) ?_
      exact t_Tree_goOn_256 C hnk hkG hk160 hf w (lv_sub hl [1, 2, 3, 4, 5, 6, 7, 8, 9] rfl)
    · have hf := if_e cd hf
      exact t_Tree_goOn_251 C hnk hkG hk160 hf w (lv_sub hl [1, 2, 3, 4, 5, 6, 7, 8, 9] rfl)
set_option maxHeartbeats 4000000 in
set_option maxRecDepth 20000 in
theorem t_Tree_goOn_160b {σ2 : St} (C : Cx g A p s m av meth c prog_9_method_6_code 15 "BellHammer$Tree" none) {nk : Nat} (hnk : 4 ≤ nk) {kG : Int32 → Int32 → Int32 → Int32 → Int64 → Int32 → St → Option (St)} (hkG : ∀ (a1 : Int32) (a2 : Int32) (a3 : Int32) (a4 : Int32) (a5 : Int64) (a6 : Int32) (σ : St) (σ2 : St), kG a1 a2 a3 a4 a5 a6 σ = some σ2 → KK l y_Tree_goOn prog_9_method_6_code 15 none nk g (wX g q) σ [.ref (q 25), .ref (q 34), .int a1, .int a2, .int a3, .int a4, .long a5, .int a6] none (wX g q) σ2) {k160 : Int32 → Int32 → Int32 → Int32 → Int32 → Int64 → Int32 → St → Option (St)} (hk160 : ∀ (x2 : Int32) (x3 : Int32) (x4 : Int32) (x8 : Int32) (x9 : Int32) (x10 : Int64) (x12 : Int32) (σ : St) (H : Heap) (locs : List Loc) (ls : Array Slot), k160 x2 x3 x4 x8 x9 x10 x12 σ = some σ2 → Wd g (wX g q) A s σ H locs → lv_has ls 15 [(0, .ref (q 25)), (1, .ref (q 34)), (2, .int x2), (3, .int x3), (4, .int x4), (8, .int x8), (9, .int x9), (10, .long x10), (12, .int x12)] → WK p l e s m av below meth c (nk + 2) g (wX g q) A none σ2 H locs (F0 m 160 ls []))  {x2 : Int32} {x3 : Int32} {x4 : Int32} {x8 : Int32} {x9 : Int32} {x10 : Int64} {x12 : Int32} {σ : St} {H : Heap} {locs : List Loc} {ls : Array Slot} (hf : f_Tree_goOn_160b kG k160 x2 x3 x4 x8 x9 x10 x12 σ = some σ2) (w : Wd g (wX g q) A s σ H locs) (hl : lv_has ls 15 [(0, .ref (q 25)), (1, .ref (q 34)), (2, .int x2), (3, .int x3), (4, .int x4), (8, .int x8), (9, .int x9), (10, .long x10), (12, .int x12)]) : WK p l e s m av below meth c (nk + 2) g (wX g q) A none σ2 H locs (F0 m 160 ls []) := by
  obtain ⟨hx, hb, hml, hown, hts, hK, hA, hZ, hlocks, hr, hN⟩ := id C
  unfold f_Tree_goOn_160b at hf
  refine lv_iload hx hb d_Tree_goOn_160 (lv_at hl 8 rfl) ?_
  refine lv_aload_n hx hb d_Tree_goOn_162 rfl (lv_at hl 0 rfl) ?_
  refine xg_25_turn C w k462 d_Tree_goOn_163 ?_
  refine xg_26_aim C w k407 d_Tree_goOn_166 ?_
  refine lv_icmp_gt (tgt := 265) hx hb d_Tree_goOn_169 (by decide) (fun cd => ?_) (fun cd => ?_)
  · have hf := it_e cd hf
    cases some_e hf
    exact k_vret C w d_Tree_goOn_265
  · have hf := if_e cd hf
    refine lv_aload_n hx hb d_Tree_goOn_172 rfl (lv_at hl 0 rfl) ?_
    refine xg_25_turn C w k462 d_Tree_goOn_173 ?_
    refine lv_iload_n hx hb d_Tree_goOn_176 rfl (lv_at hl 3 rfl) ?_
    refine lv_iload hx hb d_Tree_goOn_177 (lv_at hl 8 rfl) ?_
    refine lv_iload hx hb d_Tree_goOn_179 (lv_at hl 6 rfl) ?_
    obtain ⟨r_2, h_1, hf⟩ := bp_e hf
    refine k_callV (As := [.int x3, .int x12, .int x9]) (rest := []) C w (c_Turn_height_2 (q := q) h_1) cv_Turn_height k872 (xr_26 C w) (by omega) hl.1 rfl (Nat.le_of_ble_eq_true rfl) d_Tree_goOn_181 (fun H locs w => ?_)
    show WK p l e s m av below meth c (nk + 2) g (wX g q) A none σ2 H locs (F0 m 184 ls [.int r_2])
    refine lv_istore (lv' := [(13, .int r_2), (0, .ref (q 25)), (1, .ref (q 34)), (2, .int x2), (3, .int x3), (4, .int x4), (8, .int x8), (9, .int x9), (10, .long x10), (12, .int x12)]) hx hb d_Tree_goOn_184 hl (by decide) rfl (fun ls hl => ?_)
    refine lv_aload_n hx hb d_Tree_goOn_186 rfl (lv_at hl 1 rfl) ?_
    refine xg_25_turn C w k462 d_Tree_goOn_187 ?_
    refine lv_iload hx hb d_Tree_goOn_190 (lv_at hl 0 rfl) ?_
    obtain ⟨r_4, h_3, hf⟩ := bp_e hf
    refine k_callV (As := [.int r_2]) (rest := []) C w (c_Turn_isRing (q := q) h_3) cv_Turn_isRing k873 (xr_26 C w) (by omega) hl.1 rfl (Nat.le_of_ble_eq_true rfl) d_Tree_goOn_192 (fun H locs w => ?_)
    show WK p l e s m av below meth c (nk + 2) g (wX g q) A none σ2 H locs (F0 m 195 ls [.int r_4])
    refine lv_if_eq (tgt := 209) hx hb d_Tree_goOn_195 (by decide) (fun cd => ?_) (fun cd => ?_)
    · have hf := it_e cd hf
      exact t_Tree_goOn_209 C hnk hkG hk160 hf w (lv_sub hl [1, 2, 3, 4, 5, 6, 7, 8, 9, 0] rfl)
    · have hf := if_e cd hf
      refine lv_aload_n hx hb d_Tree_goOn_198 rfl (lv_at hl 1 rfl) ?_
      refine lv_dup hx hb d_Tree_goOn_199 rfl ?_
      refine xg_25_rings C w k465 d_Tree_goOn_200 ?_
      refine lv_lload hx hb d_Tree_goOn_203 (lv_at hl 8 rfl) ?_
      refine lv_ladd hx hb d_Tree_goOn_205 ?_
      refine xp_25_rings C w k465 d_Tree_goOn_206 (fun σ_5 H locs eσ_5 w => ?_)
      have hf := lt_e eσ_5 hf
      exact t_Tree_goOn_209 C hnk hkG hk160 hf w (lv_sub hl [1, 2, 3, 4, 5, 6, 7, 8, 9, 0] rfl)
set_option maxHeartbeats 4000000 in
set_option maxRecDepth 20000 in
theorem t_Tree_goOn_160 {σ2 : St} (C : Cx g A p s m av meth c prog_9_method_6_code 15 "BellHammer$Tree" none) {nk : Nat} (hnk : 4 ≤ nk) {kG : Int32 → Int32 → Int32 → Int32 → Int64 → Int32 → St → Option (St)} (hkG : ∀ (a1 : Int32) (a2 : Int32) (a3 : Int32) (a4 : Int32) (a5 : Int64) (a6 : Int32) (σ : St) (σ2 : St), kG a1 a2 a3 a4 a5 a6 σ = some σ2 → KK l y_Tree_goOn prog_9_method_6_code 15 none nk g (wX g q) σ [.ref (q 25), .ref (q 34), .int a1, .int a2, .int a3, .int a4, .long a5, .int a6] none (wX g q) σ2)  : ∀ (n : Nat) (x2 : Int32) (x3 : Int32) (x4 : Int32) (x8 : Int32) (x9 : Int32) (x10 : Int64) (x12 : Int32) (σ : St) (H : Heap) (locs : List Loc) (ls : Array Slot), f_Tree_goOn_160 kG  n x2 x3 x4 x8 x9 x10 x12 σ = some σ2 → Wd g (wX g q) A s σ H locs → lv_has ls 15 [(0, .ref (q 25)), (1, .ref (q 34)), (2, .int x2), (3, .int x3), (4, .int x4), (8, .int x8), (9, .int x9), (10, .long x10), (12, .int x12)] → WK p l e s m av below meth c (nk + 2) g (wX g q) A none σ2 H locs (F0 m 160 ls []) := by
  intro n
  induction n with
  | zero => intro x2 x3 x4 x8 x9 x10 x12 σ H locs ls hf; exact absurd hf (by intro z; cases z)
  | succ n ih => intro x2 x3 x4 x8 x9 x10 x12 σ H locs ls hf w hl; exact t_Tree_goOn_160b C hnk hkG  ih hf w hl
set_option maxHeartbeats 4000000 in
set_option maxRecDepth 20000 in
theorem t_Tree_goOn_149 {σ2 : St} (C : Cx g A p s m av meth c prog_9_method_6_code 15 "BellHammer$Tree" none) {nk : Nat} (hnk : 4 ≤ nk) {kG : Int32 → Int32 → Int32 → Int32 → Int64 → Int32 → St → Option (St)} (hkG : ∀ (a1 : Int32) (a2 : Int32) (a3 : Int32) (a4 : Int32) (a5 : Int64) (a6 : Int32) (σ : St) (σ2 : St), kG a1 a2 a3 a4 a5 a6 σ = some σ2 → KK l y_Tree_goOn prog_9_method_6_code 15 none nk g (wX g q) σ [.ref (q 25), .ref (q 34), .int a1, .int a2, .int a3, .int a4, .long a5, .int a6] none (wX g q) σ2)  {x2 : Int32} {x3 : Int32} {x4 : Int32} {x6 : Int64} {x8 : Int32} {x9 : Int32} {σ : St} {H : Heap} {locs : List Loc} {ls : Array Slot} (hf : f_Tree_goOn_149 kG  x2 x3 x4 x6 x8 x9 σ = some σ2) (w : Wd g (wX g q) A s σ H locs) (hl : lv_has ls 15 [(0, .ref (q 25)), (1, .ref (q 34)), (2, .int x2), (3, .int x3), (4, .int x4), (6, .long x6), (8, .int x8), (9, .int x9)]) : WK p l e s m av below meth c (nk + 2) g (wX g q) A none σ2 H locs (F0 m 149 ls []) := by
  obtain ⟨hx, hb, hml, hown, hts, hK, hA, hZ, hlocks, hr, hN⟩ := id C
  unfold f_Tree_goOn_149 at hf
  refine lv_aload_n hx hb d_Tree_goOn_149 rfl (lv_at hl 0 rfl) ?_
  refine lv_lload hx hb d_Tree_goOn_150 (lv_at hl 5 rfl) ?_
  obtain ⟨r_2, h_1, hf⟩ := bp_e hf
  refine k_callV (As := [.long x6]) (rest := []) C w (c_Tree_shareOf (q := q) h_1) cv_Tree_shareOf k868 (xr_25 C w) (by omega) hl.1 rfl (Nat.le_of_ble_eq_true rfl) d_Tree_goOn_152 (fun H locs w => ?_)
  show WK p l e s m av below meth c (nk + 2) g (wX g q) A none σ2 H locs (F0 m 155 ls [.long r_2])
  refine lv_lstore (lv' := [(10, .long r_2), (0, .ref (q 25)), (1, .ref (q 34)), (2, .int x2), (3, .int x3), (4, .int x4), (6, .long x6), (8, .int x8), (9, .int x9)]) hx hb d_Tree_goOn_155 hl (by decide) rfl (fun ls hl => ?_)
  refine lv_iconst (v := 0) hx hb d_Tree_goOn_157 (by decide) ?_
  refine lv_istore (lv' := [(12, .int 0), (10, .long r_2), (0, .ref (q 25)), (1, .ref (q 34)), (2, .int x2), (3, .int x3), (4, .int x4), (6, .long x6), (8, .int x8), (9, .int x9)]) hx hb d_Tree_goOn_158 hl (by decide) rfl (fun ls hl => ?_)
  exact t_Tree_goOn_160 C hnk hkG  FU x2 x3 x4 x8 x9 r_2 0 σ _ _ _ hf w (lv_sub hl [2, 3, 4, 5, 6, 8, 9, 1, 0] rfl)
set_option maxHeartbeats 4000000 in
set_option maxRecDepth 20000 in
theorem t_Tree_goOn_115 {σ2 : St} (C : Cx g A p s m av meth c prog_9_method_6_code 15 "BellHammer$Tree" none) {nk : Nat} (hnk : 4 ≤ nk) {kG : Int32 → Int32 → Int32 → Int32 → Int64 → Int32 → St → Option (St)} (hkG : ∀ (a1 : Int32) (a2 : Int32) (a3 : Int32) (a4 : Int32) (a5 : Int64) (a6 : Int32) (σ : St) (σ2 : St), kG a1 a2 a3 a4 a5 a6 σ = some σ2 → KK l y_Tree_goOn prog_9_method_6_code 15 none nk g (wX g q) σ [.ref (q 25), .ref (q 34), .int a1, .int a2, .int a3, .int a4, .long a5, .int a6] none (wX g q) σ2)  {x2 : Int32} {x3 : Int32} {x4 : Int32} {x6 : Int64} {x8 : Int32} {t0 : Int32} {σ : St} {H : Heap} {locs : List Loc} {ls : Array Slot} (hf : f_Tree_goOn_115 kG  x2 x3 x4 x6 x8 t0 σ = some σ2) (w : Wd g (wX g q) A s σ H locs) (hl : lv_has ls 15 [(0, .ref (q 25)), (1, .ref (q 34)), (2, .int x2), (3, .int x3), (4, .int x4), (6, .long x6), (8, .int x8)]) : WK p l e s m av below meth c (nk + 2) g (wX g q) A none σ2 H locs (F0 m 115 ls [.int t0]) := by
  obtain ⟨hx, hb, hml, hown, hts, hK, hA, hZ, hlocks, hr, hN⟩ := id C
  unfold f_Tree_goOn_115 at hf
  refine lv_istore (lv' := [(9, .int t0), (0, .ref (q 25)), (1, .ref (q 34)), (2, .int x2), (3, .int x3), (4, .int x4), (6, .long x6), (8, .int x8)]) hx hb d_Tree_goOn_115 hl (by decide) rfl (fun ls hl => ?_)
  refine lv_aload_n hx hb d_Tree_goOn_117 rfl (lv_at hl 1 rfl) ?_
  refine lv_dup hx hb d_Tree_goOn_118 rfl ?_
  refine xg_25_blows C w k466 d_Tree_goOn_119 ?_
  refine lv_lload hx hb d_Tree_goOn_122 (lv_at hl 6 rfl) ?_
  refine lv_ladd hx hb d_Tree_goOn_124 ?_
  refine xp_25_blows C w k466 d_Tree_goOn_125 (fun σ_1 H locs eσ_1 w => ?_)
  have hf := lt_e eσ_1 hf
  refine lv_iload hx hb d_Tree_goOn_128 (lv_at hl 0 rfl) ?_
  refine lv_if_eq (tgt := 149) hx hb d_Tree_goOn_130 (by decide) (fun cd => ?_) (fun cd => ?_)
  · have hf := it_e cd hf
    exact t_Tree_goOn_149 C hnk hkG  hf w (lv_sub hl [1, 2, 3, 4, 5, 6, 7, 0] rfl)
  · have hf := if_e cd hf
    refine lv_iload hx hb d_Tree_goOn_133 (lv_at hl 7 rfl) ?_
    refine lv_if_ne (tgt := 149) hx hb d_Tree_goOn_135 (by decide) (fun cd => ?_) (fun cd => ?_)
    · have hf := if_e cd hf
      exact t_Tree_goOn_149 C hnk hkG  hf w (lv_sub hl [1, 2, 3, 4, 5, 6, 7, 0] rfl)
    · have hf := it_e cd hf
      refine lv_aload_n hx hb d_Tree_goOn_138 rfl (lv_at hl 1 rfl) ?_
      refine lv_dup hx hb d_Tree_goOn_139 rfl ?_
      refine xg_25_leans C w k467 d_Tree_goOn_140 ?_
      refine lv_lload hx hb d_Tree_goOn_143 (lv_at hl 6 rfl) ?_
      refine lv_ladd hx hb d_Tree_goOn_145 ?_
      refine xp_25_leans C w k467 d_Tree_goOn_146 (fun σ_2 H locs eσ_2 w => ?_)
      have hf := lt_e eσ_2 hf
      exact t_Tree_goOn_149 C hnk hkG  hf w (lv_sub hl [1, 2, 3, 4, 5, 6, 7, 0] rfl)
set_option maxHeartbeats 4000000 in
set_option maxRecDepth 20000 in
theorem t_Tree_goOn_114 {σ2 : St} (C : Cx g A p s m av meth c prog_9_method_6_code 15 "BellHammer$Tree" none) {nk : Nat} (hnk : 4 ≤ nk) {kG : Int32 → Int32 → Int32 → Int32 → Int64 → Int32 → St → Option (St)} (hkG : ∀ (a1 : Int32) (a2 : Int32) (a3 : Int32) (a4 : Int32) (a5 : Int64) (a6 : Int32) (σ : St) (σ2 : St), kG a1 a2 a3 a4 a5 a6 σ = some σ2 → KK l y_Tree_goOn prog_9_method_6_code 15 none nk g (wX g q) σ [.ref (q 25), .ref (q 34), .int a1, .int a2, .int a3, .int a4, .long a5, .int a6] none (wX g q) σ2)  {x2 : Int32} {x3 : Int32} {x4 : Int32} {x6 : Int64} {x8 : Int32} {σ : St} {H : Heap} {locs : List Loc} {ls : Array Slot} (hf : f_Tree_goOn_114 kG  x2 x3 x4 x6 x8 σ = some σ2) (w : Wd g (wX g q) A s σ H locs) (hl : lv_has ls 15 [(0, .ref (q 25)), (1, .ref (q 34)), (2, .int x2), (3, .int x3), (4, .int x4), (6, .long x6), (8, .int x8)]) : WK p l e s m av below meth c (nk + 2) g (wX g q) A none σ2 H locs (F0 m 114 ls []) := by
  obtain ⟨hx, hb, hml, hown, hts, hK, hA, hZ, hlocks, hr, hN⟩ := id C
  unfold f_Tree_goOn_114 at hf
  refine lv_iconst (v := 0) hx hb d_Tree_goOn_114 (by decide) ?_
  exact t_Tree_goOn_115 C hnk hkG  hf w (lv_sub hl [0, 1, 2, 3, 4, 5, 6] rfl)
set_option maxHeartbeats 4000000 in
set_option maxRecDepth 20000 in
theorem t_Tree_goOn_18 {σ2 : St} (C : Cx g A p s m av meth c prog_9_method_6_code 15 "BellHammer$Tree" none) {nk : Nat} (hnk : 4 ≤ nk) {kG : Int32 → Int32 → Int32 → Int32 → Int64 → Int32 → St → Option (St)} (hkG : ∀ (a1 : Int32) (a2 : Int32) (a3 : Int32) (a4 : Int32) (a5 : Int64) (a6 : Int32) (σ : St) (σ2 : St), kG a1 a2 a3 a4 a5 a6 σ = some σ2 → KK l y_Tree_goOn prog_9_method_6_code 15 none nk g (wX g q) σ [.ref (q 25), .ref (q 34), .int a1, .int a2, .int a3, .int a4, .long a5, .int a6] none (wX g q) σ2)  {x3 : Int32} {x4 : Int32} {x6 : Int64} {σ : St} {H : Heap} {locs : List Loc} {ls : Array Slot} (hf : f_Tree_goOn_18 kG  x3 x4 x6 σ = some σ2) (w : Wd g (wX g q) A s σ H locs) (hl : lv_has ls 15 [(0, .ref (q 25)), (3, .int x3), (4, .int x4), (6, .long x6)]) : WK p l e s m av below meth c (nk + 2) g (wX g q) A none σ2 H locs (F0 m 18 ls []) := by
  obtain ⟨hx, hb, hml, hown, hts, hK, hA, hZ, hlocks, hr, hN⟩ := id C
  unfold f_Tree_goOn_18 at hf
  refine lv_aload_n hx hb d_Tree_goOn_18 rfl (lv_at hl 0 rfl) ?_
  refine lv_aload_n hx hb d_Tree_goOn_19 rfl (lv_at hl 0 rfl) ?_
  refine xg_25_fewest C w k469 d_Tree_goOn_20 ?_
  refine lv_iload_n hx hb d_Tree_goOn_23 rfl (lv_at hl 1 rfl) ?_
  refine r_min C hl.1 (by omega) (Nat.le_of_ble_eq_true rfl) k862 d_Tree_goOn_24 ?_
  refine xp_25_fewest C w k469 d_Tree_goOn_27 (fun σ_1 H locs eσ_1 w => ?_)
  have hf := lt_e eσ_1 hf
  refine lv_aload_n hx hb d_Tree_goOn_30 rfl (lv_at hl 0 rfl) ?_
  refine lv_aload_n hx hb d_Tree_goOn_31 rfl (lv_at hl 0 rfl) ?_
  refine xg_25_most C w k470 d_Tree_goOn_32 ?_
  refine lv_iload_n hx hb d_Tree_goOn_35 rfl (lv_at hl 1 rfl) ?_
  refine r_max C hl.1 (by omega) (Nat.le_of_ble_eq_true rfl) k863 d_Tree_goOn_36 ?_
  refine xp_25_most C w k470 d_Tree_goOn_39 (fun σ_2 H locs eσ_2 w => ?_)
  have hf := lt_e eσ_2 hf
  refine lv_aload_n hx hb d_Tree_goOn_42 rfl (lv_at hl 0 rfl) ?_
  refine lv_dup hx hb d_Tree_goOn_43 rfl ?_
  refine xg_25_people C w k468 d_Tree_goOn_44 ?_
  refine lv_lload hx hb d_Tree_goOn_47 (lv_at hl 3 rfl) ?_
  refine lv_iload hx hb d_Tree_goOn_49 (lv_at hl 2 rfl) ?_
  refine lv_i2l hx hb d_Tree_goOn_51 rfl ?_
  refine lv_lmul hx hb d_Tree_goOn_52 ?_
  refine lv_ladd hx hb d_Tree_goOn_53 ?_
  refine xp_25_people C w k468 d_Tree_goOn_54 (fun σ_3 H locs eσ_3 w => ?_)
  have hf := lt_e eσ_3 hf
  cases some_e hf
  exact k_vret C w d_Tree_goOn_57
set_option maxHeartbeats 4000000 in
set_option maxRecDepth 20000 in
theorem c_Tree_goOnB {l : Launch} {g : GX} {q : Nat → Nat} {nk : Nat} (hnk : 4 ≤ nk) {kG : Int32 → Int32 → Int32 → Int32 → Int64 → Int32 → St → Option (St)} (hkG : ∀ (a1 : Int32) (a2 : Int32) (a3 : Int32) (a4 : Int32) (a5 : Int64) (a6 : Int32) (σ : St) (σ2 : St), kG a1 a2 a3 a4 a5 a6 σ = some σ2 → KK l y_Tree_goOn prog_9_method_6_code 15 none nk g (wX g q) σ [.ref (q 25), .ref (q 34), .int a1, .int a2, .int a3, .int a4, .long a5, .int a6] none (wX g q) σ2) {x2 : Int32} {x3 : Int32} {x4 : Int32} {x5 : Int32} {x6 : Int64} {x8 : Int32}  {σ : St} {σ2 : St} (hf : f_Tree_goOnB kG x2 x3 x4 x5 x6 x8 σ = some σ2) : KK l y_Tree_goOn prog_9_method_6_code 15 none (nk + 2) g (wX g q) σ [.ref (q 25), .ref (q 34), .int x2, .int x3, .int x4, .int x5, .long x6, .int x8] none (wX g q) σ2 := by
  refine KK_of (plainFor_of_name (by decide)) (Nat.le_of_ble_eq_true rfl) (fun p e s m below meth c A ls C w hl => ?_)
  have hl : lv_has ls 15 [(0, .ref (q 25)), (1, .ref (q 34)), (2, .int x2), (3, .int x3), (4, .int x4), (5, .int x5), (6, .long x6), (8, .int x8)] := hl
  obtain ⟨hx, hb, hml, hown, hts, hK, hA, hZ, hlocks, hr, hN⟩ := id C
  unfold f_Tree_goOnB at hf
  refine lv_iload_n hx hb d_Tree_goOn_0 rfl (lv_at hl 3 rfl) ?_
  refine lv_iconst (v := 4) hx hb d_Tree_goOn_1 (by decide) ?_
  refine lv_icmp_ge (tgt := 18) hx hb d_Tree_goOn_2 (by decide) (fun cd => ?_) (fun cd => ?_)
  · have hf := it_e cd hf
    exact t_Tree_goOn_18 C hnk hkG  hf w (lv_sub hl [0, 3, 4, 6] rfl)
  · have hf := if_e cd hf
    refine lv_aload_n hx hb d_Tree_goOn_5 rfl (lv_at hl 0 rfl) ?_
    refine xg_25_turn C w k462 d_Tree_goOn_6 ?_
    refine lv_iload_n hx hb d_Tree_goOn_9 rfl (lv_at hl 3 rfl) ?_
    refine lv_iload hx hb d_Tree_goOn_10 (lv_at hl 5 rfl) ?_
    obtain ⟨r_2, h_1, hf⟩ := bp_e hf
    refine k_callV (As := [.int x3, .int x5]) (rest := []) C w (c_Turn_goesOn (q := q) h_1) cv_Turn_goesOn k850 (xr_26 C w) (by omega) hl.1 rfl (Nat.le_of_ble_eq_true rfl) d_Tree_goOn_12 (fun H locs w => ?_)
    show WK p l e s m _ below meth c (nk + 2) g (wX g q) A none σ2 H locs (F0 m 15 ls [.int r_2])
    refine lv_if_ne (tgt := 58) hx hb d_Tree_goOn_15 (by decide) (fun cd => ?_) (fun cd => ?_)
    · have hf := if_e cd hf
      refine lv_aload_n hx hb d_Tree_goOn_58 rfl (lv_at hl 0 rfl) ?_
      refine xg_25_showman C w k464 d_Tree_goOn_59 ?_
      refine lv_iload hx hb d_Tree_goOn_62 (lv_at hl 4 rfl) ?_
      refine lv_iload_n hx hb d_Tree_goOn_64 rfl (lv_at hl 3 rfl) ?_
      refine lv_iload hx hb d_Tree_goOn_65 (lv_at hl 5 rfl) ?_
      refine lv_iconst (v := 0) hx hb d_Tree_goOn_67 (by decide) ?_
      obtain ⟨σ_4, h_3, hf⟩ := bp_e hf
      refine k_callV (As := [.int x4, .int x3, .int x5, .int 0]) (rest := []) C w (c_Showman_look_2 (q := q) h_3) cv_Showman_look k864 (xr_28 C w) (by omega) hl.1 rfl (Nat.le_of_ble_eq_true rfl) d_Tree_goOn_68 (fun H locs w => ?_)
      show WK p l e s m _ below meth c (nk + 2) g (wX g q) A none σ2 H locs (F0 m 71 ls [])
      refine lv_aload_n hx hb d_Tree_goOn_71 rfl (lv_at hl 0 rfl) ?_
      refine xg_25_showman C w k464 d_Tree_goOn_72 ?_
      refine lv_aload_n hx hb d_Tree_goOn_75 rfl (lv_at hl 0 rfl) ?_
      refine xg_25_turn C w k462 d_Tree_goOn_76 ?_
      refine xg_26_lady C w k413 d_Tree_goOn_79 ?_
      refine lv_aload_n hx hb d_Tree_goOn_82 rfl (lv_at hl 0 rfl) ?_
      refine xg_25_turn C w k462 d_Tree_goOn_83 ?_
      refine lv_iload_n hx hb d_Tree_goOn_86 rfl (lv_at hl 3 rfl) ?_
      obtain ⟨r_6, h_5, hf⟩ := bp_e hf
      refine k_callV (As := [.int x3]) (rest := [.int (sI σ_4 45), .ref (q 28)]) C w (c_Turn_coinsBehind (q := q) h_5) cv_Turn_coinsBehind k865 (xr_26 C w) (by omega) hl.1 rfl (Nat.le_of_ble_eq_true rfl) d_Tree_goOn_87 (fun H locs w => ?_)
      show WK p l e s m _ below meth c (nk + 2) g (wX g q) A none σ2 H locs (F0 m 90 ls [.int r_6, .int (sI σ_4 45), .ref (q 28)])
      obtain ⟨σ_8, h_7, hf⟩ := bp_e hf
      refine k_callV (As := [.int (sI σ_4 45), .int r_6]) (rest := []) C w (c_Showman_lookAt_2 (q := q) h_7) cv_Showman_lookAt k866 (xr_28 C w) (by omega) hl.1 rfl (Nat.le_of_ble_eq_true rfl) d_Tree_goOn_90 (fun H locs w => ?_)
      show WK p l e s m _ below meth c (nk + 2) g (wX g q) A none σ2 H locs (F0 m 93 ls [])
      refine lv_iload_n hx hb d_Tree_goOn_93 rfl (lv_at hl 2 rfl) ?_
      refine lv_if_eq (tgt := 114) hx hb d_Tree_goOn_94 (by decide) (fun cd => ?_) (fun cd => ?_)
      · have hf := it_e cd hf
        exact t_Tree_goOn_114 C hnk hkG  hf w (lv_sub hl [0, 1, 2, 3, 4, 6, 7] rfl)
      · have hf := if_e cd hf
        refine lv_aload_n hx hb d_Tree_goOn_97 rfl (lv_at hl 0 rfl) ?_
        refine xg_25_showman C w k464 d_Tree_goOn_98 ?_
        refine lv_aload_n hx hb d_Tree_goOn_101 rfl (lv_at hl 1 rfl) ?_
        obtain ⟨r_10, σ_11, h_9, hf⟩ := bd_e hf
        refine k_callV (As := [.ref (q 34)]) (rest := []) C w (c_Showman_rulesThatHold_2 (q := q) h_9) cv_Showman_rulesThatHold k867 (xr_28 C w) (by omega) hl.1 rfl (Nat.le_of_ble_eq_true rfl) d_Tree_goOn_102 (fun H locs w => ?_)
        show WK p l e s m _ below meth c (nk + 2) g (wX g q) A none σ2 H locs (F0 m 105 ls [.int r_10])
        refine lv_iload_n hx hb d_Tree_goOn_105 rfl (lv_at hl 2 rfl) ?_
        refine lv_iand hx hb d_Tree_goOn_106 ?_
        refine lv_if_eq (tgt := 114) hx hb d_Tree_goOn_107 (by decide) (fun cd => ?_) (fun cd => ?_)
        · have hf := it_e cd hf
          exact t_Tree_goOn_114 C hnk hkG  hf w (lv_sub hl [0, 1, 2, 3, 4, 6, 7] rfl)
        · have hf := if_e cd hf
          refine lv_iconst (v := 1) hx hb d_Tree_goOn_110 (by decide) ?_
          refine lv_goto (tgt := 115) hx hb d_Tree_goOn_111 (by decide) ?_
          exact t_Tree_goOn_115 C hnk hkG  hf w (lv_sub hl [0, 1, 2, 3, 4, 6, 7] rfl)
    · have hf := it_e cd hf
      exact t_Tree_goOn_18 C hnk hkG  hf w (lv_sub hl [0, 3, 4, 6] rfl)
set_option maxHeartbeats 4000000 in
set_option maxRecDepth 20000 in
theorem c_Tree_goOn {l : Launch} {g : GX} {q : Nat → Nat} : ∀ (d : Nat) (x2 : Int32) (x3 : Int32) (x4 : Int32) (x5 : Int32) (x6 : Int64) (x8 : Int32) (σ : St) (σ2 : St), f_Tree_goOn d x2 x3 x4 x5 x6 x8 σ = some σ2 → KK l y_Tree_goOn prog_9_method_6_code 15 none (4 + 2 * d) g (wX g q) σ [.ref (q 25), .ref (q 34), .int x2, .int x3, .int x4, .int x5, .long x6, .int x8] none (wX g q) σ2 := by
  intro d
  induction d with
  | zero => intro x2 x3 x4 x5 x6 x8 σ σ2 hf; exact absurd hf (by intro z; cases z)
  | succ d ih =>
    intro x2 x3 x4 x5 x6 x8 σ σ2 hf
    have := c_Tree_goOnB (l := l) (g := g) (q := q) (nk := 4 + 2 * d) (by omega) ih hf
    rw [show 4 + 2 * (d + 1) = 4 + 2 * d + 2 from by omega]
    exact this
def f_Tree_walk (x2 : Int32) (σ : St) : Option (St) :=
  lt (uJ σ 0 0) fun σ_1 =>
  lt (uJ σ_1 1 0) fun σ_2 =>
  lt (uJ σ_2 2 0) fun σ_3 =>
  lt (uJ σ_3 3 0) fun σ_4 =>
  lt (uI σ_4 37 4) fun σ_5 =>
  lt (uI σ_5 38 0) fun σ_6 =>
  bp (f_Tree_goOn 6 x2 0 (sI σ_6 51) 0 12960000 0 σ_6) fun σ_8 =>
  some σ_8
set_option maxHeartbeats 4000000 in
set_option maxRecDepth 20000 in
theorem c_Tree_walk {l : Launch} {g : GX} {q : Nat → Nat} {x2 : Int32}  {σ : St} {σ2 : St} (hf : f_Tree_walk  x2 σ = some σ2) : KK l y_Tree_walk prog_9_method_5_code 3 none 17 g (wX g q) σ [.ref (q 25), .ref (q 34), .int x2] none (wX g q) σ2 := by
  refine KK_of (plainFor_of_name (by decide)) (Nat.le_of_ble_eq_true rfl) (fun p e s m below meth c A ls C w hl => ?_)
  have hl : lv_has ls 3 [(0, .ref (q 25)), (1, .ref (q 34)), (2, .int x2)] := hl
  obtain ⟨hx, hb, hml, hown, hts, hK, hA, hZ, hlocks, hr, hN⟩ := id C
  unfold f_Tree_walk at hf
  refine lv_aload_n hx hb d_Tree_walk_0 rfl (lv_at hl 0 rfl) ?_
  refine lv_lconst (v := 0) hx hb d_Tree_walk_1 (by decide) ?_
  refine xp_25_rings C w k465 d_Tree_walk_2 (fun σ_1 H locs eσ_1 w => ?_)
  have hf := lt_e eσ_1 hf
  refine lv_aload_n hx hb d_Tree_walk_5 rfl (lv_at hl 0 rfl) ?_
  refine lv_lconst (v := 0) hx hb d_Tree_walk_6 (by decide) ?_
  refine xp_25_blows C w k466 d_Tree_walk_7 (fun σ_2 H locs eσ_2 w => ?_)
  have hf := lt_e eσ_2 hf
  refine lv_aload_n hx hb d_Tree_walk_10 rfl (lv_at hl 0 rfl) ?_
  refine lv_lconst (v := 0) hx hb d_Tree_walk_11 (by decide) ?_
  refine xp_25_leans C w k467 d_Tree_walk_12 (fun σ_3 H locs eσ_3 w => ?_)
  have hf := lt_e eσ_3 hf
  refine lv_aload_n hx hb d_Tree_walk_15 rfl (lv_at hl 0 rfl) ?_
  refine lv_lconst (v := 0) hx hb d_Tree_walk_16 (by decide) ?_
  refine xp_25_people C w k468 d_Tree_walk_17 (fun σ_4 H locs eσ_4 w => ?_)
  have hf := lt_e eσ_4 hf
  refine lv_aload_n hx hb d_Tree_walk_20 rfl (lv_at hl 0 rfl) ?_
  refine lv_iconst (v := 4) hx hb d_Tree_walk_21 (by decide) ?_
  refine xp_25_fewest C w k469 d_Tree_walk_22 (fun σ_5 H locs eσ_5 w => ?_)
  have hf := lt_e eσ_5 hf
  refine lv_aload_n hx hb d_Tree_walk_25 rfl (lv_at hl 0 rfl) ?_
  refine lv_iconst (v := 0) hx hb d_Tree_walk_26 (by decide) ?_
  refine xp_25_most C w k470 d_Tree_walk_27 (fun σ_6 H locs eσ_6 w => ?_)
  have hf := lt_e eσ_6 hf
  refine lv_aload_n hx hb d_Tree_walk_30 rfl (lv_at hl 0 rfl) ?_
  refine lv_aload_n hx hb d_Tree_walk_31 rfl (lv_at hl 1 rfl) ?_
  refine lv_iload_n hx hb d_Tree_walk_32 rfl (lv_at hl 2 rfl) ?_
  refine lv_iconst (v := 0) hx hb d_Tree_walk_33 (by decide) ?_
  refine lv_aload_n hx hb d_Tree_walk_34 rfl (lv_at hl 0 rfl) ?_
  refine xg_25_turn C w k462 d_Tree_walk_35 ?_
  refine xg_26_crowd C w k423 d_Tree_walk_38 ?_
  refine lv_iconst (v := 0) hx hb d_Tree_walk_41 (by decide) ?_
  refine lv_ldc2 (v := 12960000) hx hb hown (hts _ k845) d_Tree_walk_42 ?_
  refine lv_iconst (v := 0) hx hb d_Tree_walk_45 (by decide) ?_
  obtain ⟨σ_8, h_7, hf⟩ := bp_e hf
  refine k_callV (As := [.ref (q 34), .int x2, .int 0, .int (sI σ_6 51), .int 0, .long 12960000, .int 0]) (rest := []) C w (c_Tree_goOn (q := q) 6 _ _ _ _ _ _ _ _ h_7) cv_Tree_goOn k846 (xr_25 C w) (by decide) hl.1 rfl (Nat.le_of_ble_eq_true rfl) d_Tree_walk_46 (fun H locs w => ?_)
  show WK p l e s m _ below meth c 17 g (wX g q) A none σ2 H locs (F0 m 49 ls [])
  cases some_e hf
  exact k_vret C w d_Tree_walk_49
def f_Tree_thousandths (x0 : Int64) (σ : St) : Option (Int32) :=
  some (((x0 * 1000) / 12960000)).toInt32
set_option maxHeartbeats 4000000 in
set_option maxRecDepth 20000 in
theorem c_Tree_thousandths {l : Launch} {g : GX} {q : Nat → Nat} {x0 : Int64}  {σ : St} {r : Int32} (hf : f_Tree_thousandths  x0 σ = some r) : KK l y_Tree_thousandths prog_9_method_3_code 2 (some .int) 0 g (wX g q) σ [.long x0] (some (.int r)) (wX g q) σ := by
  refine KK_of (plainFor_of_name (by decide)) (Nat.le_of_ble_eq_true rfl) (fun p e s m below meth c A ls C w hl => ?_)
  have hl : lv_has ls 2 [(0, .long x0)] := hl
  obtain ⟨hx, hb, hml, hown, hts, hK, hA, hZ, hlocks, hr, hN⟩ := id C
  unfold f_Tree_thousandths at hf
  refine lv_lload_n hx hb d_Tree_thousandths_0 rfl (lv_at hl 0 rfl) ?_
  refine lv_ldc2 (v := 1000) hx hb hown (hts _ k889) d_Tree_thousandths_1 ?_
  refine lv_lmul hx hb d_Tree_thousandths_4 ?_
  refine lv_ldc2 (v := 12960000) hx hb hown (hts _ k845) d_Tree_thousandths_5 ?_
  refine lv_ldiv hx hb d_Tree_thousandths_8 (by decide) ?_
  refine lv_l2i hx hb d_Tree_thousandths_9 rfl ?_
  cases some_e hf
  exact k_iret C w d_Tree_thousandths_10
def f_Tree_fact (x1 : Int32) (σ : St) : Option (Int32) :=
  if x1 = 0 then
    bp (f_Tree_thousandths (sJ σ 0) σ) fun r_2 =>
    some r_2
  else
    if x1 = 1 then
      bp (f_Tree_thousandths ((sJ σ 1) * ((sI σ 48)).toInt64) σ) fun r_4 =>
      some r_4
    else
      if x1 = 2 then
        some (sI σ 37)
      else
        if x1 = 3 then
          some (sI σ 38)
        else
          if x1 = 4 then
            bp (f_Tree_thousandths (sJ σ 2) σ) fun r_6 =>
            some r_6
          else
            if x1 = 5 then
              bp (f_Tree_thousandths (sJ σ 3) σ) fun r_8 =>
              some r_8
            else
              some (-1)
set_option maxHeartbeats 4000000 in
set_option maxRecDepth 20000 in
theorem c_Tree_fact {l : Launch} {g : GX} {q : Nat → Nat} {x1 : Int32}  {σ : St} {r : Int32} (hf : f_Tree_fact  x1 σ = some r) : KK l y_Tree_fact prog_9_method_2_code 2 (some .int) 1 g (wX g q) σ [.ref (q 25), .int x1] (some (.int r)) (wX g q) σ := by
  refine KK_of (plainFor_of_name (by decide)) (Nat.le_of_ble_eq_true rfl) (fun p e s m below meth c A ls C w hl => ?_)
  have hl : lv_has ls 2 [(0, .ref (q 25)), (1, .int x1)] := hl
  obtain ⟨hx, hb, hml, hown, hts, hK, hA, hZ, hlocks, hr, hN⟩ := id C
  unfold f_Tree_fact at hf
  refine lv_iload_n hx hb d_Tree_fact_0 rfl (lv_at hl 1 rfl) ?_
  by_cases c0 : x1 = 0
  · have hf := it_e c0 hf
    refine lv_tableIn (tgt := 40) hx hb d_Tree_fact_1 (by rw [c0]; decide) (by rw [c0]; decide) (by rw [c0]; rfl) (by decide) ?_
    refine lv_aload_n hx hb d_Tree_fact_40 rfl (lv_at hl 0 rfl) ?_
    refine xg_25_rings C w k465 d_Tree_fact_41 ?_
    obtain ⟨r_2, h_1, hf⟩ := bp_e hf
    refine k_callS (As := [.long (sJ σ 0)]) (rest := []) C w (c_Tree_thousandths (q := q) h_1) cv_Tree_thousandths k886 (by decide) hl.1 rfl (Nat.le_of_ble_eq_true rfl) d_Tree_fact_44 (fun H locs w => ?_)
    show WK p l e s m _ below meth c 1 g (wX g q) A (some (.int r)) σ H locs (F0 m 47 ls [.int r_2])
    cases some_e hf
    exact k_iret C w d_Tree_fact_47
  have hf := if_e c0 hf
  have n0 := lv_neT c0 (a := 0) rfl
  by_cases c1 : x1 = 1
  · have hf := it_e c1 hf
    refine lv_tableIn (tgt := 48) hx hb d_Tree_fact_1 (by rw [c1]; decide) (by rw [c1]; decide) (by rw [c1]; rfl) (by decide) ?_
    refine lv_aload_n hx hb d_Tree_fact_48 rfl (lv_at hl 0 rfl) ?_
    refine xg_25_blows C w k466 d_Tree_fact_49 ?_
    refine lv_aload_n hx hb d_Tree_fact_52 rfl (lv_at hl 0 rfl) ?_
    refine xg_25_turn C w k462 d_Tree_fact_53 ?_
    refine xg_26_price C w k418 d_Tree_fact_56 ?_
    refine lv_i2l hx hb d_Tree_fact_59 rfl ?_
    refine lv_lmul hx hb d_Tree_fact_60 ?_
    obtain ⟨r_4, h_3, hf⟩ := bp_e hf
    refine k_callS (As := [.long ((sJ σ 1) * ((sI σ 48)).toInt64)]) (rest := []) C w (c_Tree_thousandths (q := q) h_3) cv_Tree_thousandths k886 (by decide) hl.1 rfl (Nat.le_of_ble_eq_true rfl) d_Tree_fact_61 (fun H locs w => ?_)
    show WK p l e s m _ below meth c 1 g (wX g q) A (some (.int r)) σ H locs (F0 m 64 ls [.int r_4])
    cases some_e hf
    exact k_iret C w d_Tree_fact_64
  have hf := if_e c1 hf
  have n1 := lv_neT c1 (a := 1) rfl
  by_cases c2 : x1 = 2
  · have hf := it_e c2 hf
    refine lv_tableIn (tgt := 65) hx hb d_Tree_fact_1 (by rw [c2]; decide) (by rw [c2]; decide) (by rw [c2]; rfl) (by decide) ?_
    refine lv_aload_n hx hb d_Tree_fact_65 rfl (lv_at hl 0 rfl) ?_
    refine xg_25_fewest C w k469 d_Tree_fact_66 ?_
    cases some_e hf
    exact k_iret C w d_Tree_fact_69
  have hf := if_e c2 hf
  have n2 := lv_neT c2 (a := 2) rfl
  by_cases c3 : x1 = 3
  · have hf := it_e c3 hf
    refine lv_tableIn (tgt := 70) hx hb d_Tree_fact_1 (by rw [c3]; decide) (by rw [c3]; decide) (by rw [c3]; rfl) (by decide) ?_
    refine lv_aload_n hx hb d_Tree_fact_70 rfl (lv_at hl 0 rfl) ?_
    refine xg_25_most C w k470 d_Tree_fact_71 ?_
    cases some_e hf
    exact k_iret C w d_Tree_fact_74
  have hf := if_e c3 hf
  have n3 := lv_neT c3 (a := 3) rfl
  by_cases c4 : x1 = 4
  · have hf := it_e c4 hf
    refine lv_tableIn (tgt := 75) hx hb d_Tree_fact_1 (by rw [c4]; decide) (by rw [c4]; decide) (by rw [c4]; rfl) (by decide) ?_
    refine lv_aload_n hx hb d_Tree_fact_75 rfl (lv_at hl 0 rfl) ?_
    refine xg_25_leans C w k467 d_Tree_fact_76 ?_
    obtain ⟨r_6, h_5, hf⟩ := bp_e hf
    refine k_callS (As := [.long (sJ σ 2)]) (rest := []) C w (c_Tree_thousandths (q := q) h_5) cv_Tree_thousandths k886 (by decide) hl.1 rfl (Nat.le_of_ble_eq_true rfl) d_Tree_fact_79 (fun H locs w => ?_)
    show WK p l e s m _ below meth c 1 g (wX g q) A (some (.int r)) σ H locs (F0 m 82 ls [.int r_6])
    cases some_e hf
    exact k_iret C w d_Tree_fact_82
  have hf := if_e c4 hf
  have n4 := lv_neT c4 (a := 4) rfl
  by_cases c5 : x1 = 5
  · have hf := it_e c5 hf
    refine lv_tableIn (tgt := 83) hx hb d_Tree_fact_1 (by rw [c5]; decide) (by rw [c5]; decide) (by rw [c5]; rfl) (by decide) ?_
    refine lv_aload_n hx hb d_Tree_fact_83 rfl (lv_at hl 0 rfl) ?_
    refine xg_25_people C w k468 d_Tree_fact_84 ?_
    obtain ⟨r_8, h_7, hf⟩ := bp_e hf
    refine k_callS (As := [.long (sJ σ 3)]) (rest := []) C w (c_Tree_thousandths (q := q) h_7) cv_Tree_thousandths k886 (by decide) hl.1 rfl (Nat.le_of_ble_eq_true rfl) d_Tree_fact_87 (fun H locs w => ?_)
    show WK p l e s m _ below meth c 1 g (wX g q) A (some (.int r)) σ H locs (F0 m 90 ls [.int r_8])
    cases some_e hf
    exact k_iret C w d_Tree_fact_90
  have hf := if_e c5 hf
  have n5 := lv_neT c5 (a := 5) rfl
  refine lv_tableOut (tgt := 91) hx hb d_Tree_fact_1 (by omega) (by decide) ?_
  refine lv_iconst (v := (-1)) hx hb d_Tree_fact_91 (by decide) ?_
  cases some_e hf
  exact k_iret C w d_Tree_fact_92
def f_BH_tree (x1 : Int32) (x2 : Int32) (σ : St) : Option (Int32 × St) :=
  bp (f_BH_isTrier x1 σ) fun r_2 =>
  if r_2 = 0 then
    some ((-1), σ)
  else
    bp (f_Turn_load_2 x1 σ) fun σ_4 =>
    bp (f_Tree_walk (sI σ_4 19) σ_4) fun σ_6 =>
    bp (f_Tree_fact x2 σ_6) fun r_8 =>
    some (r_8, σ_6)
set_option maxHeartbeats 4000000 in
set_option maxRecDepth 20000 in
theorem c_BH_tree {l : Launch} {g : GX} {q : Nat → Nat} {x1 : Int32} {x2 : Int32}  {σ : St} {r : Int32} {σ2 : St} (hf : f_BH_tree  x1 x2 σ = some (r, σ2)) : KK l y_BH_tree prog_1_method_15_code 3 (some .int) 18 g (wX g q) σ [.ref (q 0), .int x1, .int x2] (some (.int r)) (wX g q) σ2 := by
  refine KK_of (plainFor_of_name (by decide)) (Nat.le_of_ble_eq_true rfl) (fun p e s m below meth c A ls C w hl => ?_)
  have hl : lv_has ls 3 [(0, .ref (q 0)), (1, .int x1), (2, .int x2)] := hl
  obtain ⟨hx, hb, hml, hown, hts, hK, hA, hZ, hlocks, hr, hN⟩ := id C
  unfold f_BH_tree at hf
  refine lv_aload_n hx hb d_BH_tree_0 rfl (lv_at hl 0 rfl) ?_
  refine lv_iload_n hx hb d_BH_tree_1 rfl (lv_at hl 1 rfl) ?_
  obtain ⟨r_2, h_1, hf⟩ := bp_e hf
  refine k_callV (As := [.int x1]) (rest := []) C w (c_BH_isTrier (q := q) h_1) cv_BH_isTrier k736 (xr_0 C w) (by decide) hl.1 rfl (Nat.le_of_ble_eq_true rfl) d_BH_tree_2 (fun H locs w => ?_)
  show WK p l e s m _ below meth c 18 g (wX g q) A (some (.int r)) σ2 H locs (F0 m 5 ls [.int r_2])
  refine lv_if_ne (tgt := 10) hx hb d_BH_tree_5 (by decide) (fun cd => ?_) (fun cd => ?_)
  · have hf := if_e cd hf
    refine lv_aload_n hx hb d_BH_tree_10 rfl (lv_at hl 0 rfl) ?_
    refine xg_0_tree C w k512 d_BH_tree_11 ?_
    refine xg_25_turn C w k463 d_BH_tree_14 ?_
    refine lv_aload_n hx hb d_BH_tree_17 rfl (lv_at hl 0 rfl) ?_
    refine xg_0_fair C w k513 d_BH_tree_18 ?_
    refine lv_iload_n hx hb d_BH_tree_21 rfl (lv_at hl 1 rfl) ?_
    refine lv_aload_n hx hb d_BH_tree_22 rfl (lv_at hl 0 rfl) ?_
    refine xg_0_book C w k509 d_BH_tree_23 ?_
    refine xg_14_now C w k344 d_BH_tree_26 ?_
    obtain ⟨σ_4, h_3, hf⟩ := bp_e hf
    refine k_callV (As := [.ref (q 34), .int x1, .ref (q 15)]) (rest := []) C w (c_Turn_load_2 (q := q) h_3) cv_Turn_load k770 (xr_26 C w) (by decide) hl.1 rfl (Nat.le_of_ble_eq_true rfl) d_BH_tree_29 (fun H locs w => ?_)
    show WK p l e s m _ below meth c 18 g (wX g q) A (some (.int r)) σ2 H locs (F0 m 32 ls [])
    refine lv_aload_n hx hb d_BH_tree_32 rfl (lv_at hl 0 rfl) ?_
    refine xg_0_tree C w k512 d_BH_tree_33 ?_
    refine lv_aload_n hx hb d_BH_tree_36 rfl (lv_at hl 0 rfl) ?_
    refine xg_0_fair C w k513 d_BH_tree_37 ?_
    refine lv_aload_n hx hb d_BH_tree_40 rfl (lv_at hl 0 rfl) ?_
    refine xg_0_book C w k509 d_BH_tree_41 ?_
    refine xg_14_inForce C w k342 d_BH_tree_44 ?_
    obtain ⟨σ_6, h_5, hf⟩ := bp_e hf
    refine k_callV (As := [.ref (q 34), .int (sI σ_4 19)]) (rest := []) C w (c_Tree_walk (q := q) h_5) cv_Tree_walk k841 (xr_25 C w) (by decide) hl.1 rfl (Nat.le_of_ble_eq_true rfl) d_BH_tree_47 (fun H locs w => ?_)
    show WK p l e s m _ below meth c 18 g (wX g q) A (some (.int r)) σ2 H locs (F0 m 50 ls [])
    refine lv_aload_n hx hb d_BH_tree_50 rfl (lv_at hl 0 rfl) ?_
    refine xg_0_tree C w k512 d_BH_tree_51 ?_
    refine lv_iload_n hx hb d_BH_tree_54 rfl (lv_at hl 2 rfl) ?_
    obtain ⟨r_8, h_7, hf⟩ := bp_e hf
    refine k_callV (As := [.int x2]) (rest := []) C w (c_Tree_fact (q := q) h_7) cv_Tree_fact k882 (xr_25 C w) (by decide) hl.1 rfl (Nat.le_of_ble_eq_true rfl) d_BH_tree_55 (fun H locs w => ?_)
    show WK p l e s m _ below meth c 18 g (wX g q) A (some (.int r)) σ2 H locs (F0 m 58 ls [.int r_8])
    obtain ⟨rfl, rfl⟩ := some2_e hf
    exact k_iret C w d_BH_tree_58
  · have hf := it_e cd hf
    refine lv_iconst (v := (-1)) hx hb d_BH_tree_8 (by decide) ?_
    obtain ⟨rfl, rfl⟩ := some2_e hf
    exact k_iret C w d_BH_tree_9
def f_Arrays_fill_J_6b (k6 : Int64 → Int32 → Int32 → St → Option (St)) (x1 : Int64) (x3 : Int32) (x4 : Int32) (σ : St) : Option (St) :=
  if x4 ≤ x3 then
    some σ
  else
    gd (inB x3 64) <|
    lt (uB σ 1 (vp_updL (sB σ 1) x3.toNatClampNeg x1)) fun σ_2 =>
    lt ((x3 + 1)) fun x_3 =>
    k6 x1 x_3 x4 σ_2
def f_Arrays_fill_J_6 : Nat → Int64 → Int32 → Int32 → St → Option (St)
  | 0 => fun _ _ _ _ => none
  | n + 1 => f_Arrays_fill_J_6b   (f_Arrays_fill_J_6   n)
def f_Arrays_fill_J (x1 : Int64) (σ : St) : Option (St) :=
  f_Arrays_fill_J_6 FU x1 0 64 σ
set_option maxHeartbeats 4000000 in
set_option maxRecDepth 20000 in
theorem t_Arrays_fill_J_6b {σ2 : St} (C : Cx g A p s m av meth c prog_19_method_101_code 5 "java/util/Arrays" none) {k6 : Int64 → Int32 → Int32 → St → Option (St)} (hk6 : ∀ (x1 : Int64) (x3 : Int32) (x4 : Int32) (σ : St) (H : Heap) (locs : List Loc) (ls : Array Slot), k6 x1 x3 x4 σ = some σ2 → Wd g (wX g q) A s σ H locs → lv_has ls 5 [(0, .ref (q 33)), (1, .long x1), (3, .int x3), (4, .int x4)] → WK p l e s m av below meth c 0 g (wX g q) A none σ2 H locs (F0 m 6 ls []))  {x1 : Int64} {x3 : Int32} {x4 : Int32} {σ : St} {H : Heap} {locs : List Loc} {ls : Array Slot} (hf : f_Arrays_fill_J_6b  k6 x1 x3 x4 σ = some σ2) (w : Wd g (wX g q) A s σ H locs) (hl : lv_has ls 5 [(0, .ref (q 33)), (1, .long x1), (3, .int x3), (4, .int x4)]) : WK p l e s m av below meth c 0 g (wX g q) A none σ2 H locs (F0 m 6 ls []) := by
  obtain ⟨hx, hb, hml, hown, hts, hK, hA, hZ, hlocks, hr, hN⟩ := id C
  unfold f_Arrays_fill_J_6b at hf
  refine lv_iload_n hx hb d_Arrays_fill_J_6 rfl (lv_at hl 2 rfl) ?_
  refine lv_iload hx hb d_Arrays_fill_J_7 (lv_at hl 3 rfl) ?_
  refine lv_icmp_ge (tgt := 22) hx hb d_Arrays_fill_J_9 (by decide) (fun cd => ?_) (fun cd => ?_)
  · have hf := it_e cd hf
    cases some_e hf
    exact k_vret C w d_Arrays_fill_J_22
  · have hf := if_e cd hf
    refine lv_aload_n hx hb d_Arrays_fill_J_12 rfl (lv_at hl 0 rfl) ?_
    refine lv_iload_n hx hb d_Arrays_fill_J_13 rfl (lv_at hl 2 rfl) ?_
    refine lv_lload_n hx hb d_Arrays_fill_J_14 rfl (lv_at hl 1 rfl) ?_
    obtain ⟨g_1, hf⟩ := gd_e hf
    refine xs_33 C w g_1 d_Arrays_fill_J_15 (fun σ_2 H locs eσ_2 w => ?_)
    have hf := lt_e eσ_2 hf
    obtain ⟨x_3, ex_3⟩ : ∃ y : Int32, y = (x3 + 1) := ⟨_, rfl⟩
    have hf := lt_e ex_3 hf
    refine lv_iinc (v := x_3) (lv' := [(3, .int x_3), (0, .ref (q 33)), (1, .long x1), (4, .int x4)]) hx hb d_Arrays_fill_J_16 hl (k := 2) rfl (by rw [ex_3]; rfl) (by decide) rfl (fun ls hl => ?_)
    refine lv_goto (tgt := 6) hx hb d_Arrays_fill_J_19 (by decide) ?_
    exact hk6 x1 x_3 x4 σ_2 _ _ _ hf w (lv_sub hl [1, 2, 0, 3] rfl)
set_option maxHeartbeats 4000000 in
set_option maxRecDepth 20000 in
theorem t_Arrays_fill_J_6 {σ2 : St} (C : Cx g A p s m av meth c prog_19_method_101_code 5 "java/util/Arrays" none)  : ∀ (n : Nat) (x1 : Int64) (x3 : Int32) (x4 : Int32) (σ : St) (H : Heap) (locs : List Loc) (ls : Array Slot), f_Arrays_fill_J_6   n x1 x3 x4 σ = some σ2 → Wd g (wX g q) A s σ H locs → lv_has ls 5 [(0, .ref (q 33)), (1, .long x1), (3, .int x3), (4, .int x4)] → WK p l e s m av below meth c 0 g (wX g q) A none σ2 H locs (F0 m 6 ls []) := by
  intro n
  induction n with
  | zero => intro x1 x3 x4 σ H locs ls hf; exact absurd hf (by intro z; cases z)
  | succ n ih => intro x1 x3 x4 σ H locs ls hf w hl; exact t_Arrays_fill_J_6b C  ih hf w hl
set_option maxHeartbeats 4000000 in
set_option maxRecDepth 20000 in
theorem c_Arrays_fill_J {l : Launch} {g : GX} {q : Nat → Nat} {x1 : Int64}  {σ : St} {σ2 : St} (hf : f_Arrays_fill_J  x1 σ = some σ2) : KK l y_Arrays_fill_J prog_19_method_101_code 5 none 0 g (wX g q) σ [.ref (q 33), .long x1] none (wX g q) σ2 := by
  refine KK_of (by decide +kernel) (Nat.le_of_ble_eq_true rfl) (fun p e s m below meth c A ls C w hl => ?_)
  have hl : lv_has ls 5 [(0, .ref (q 33)), (1, .long x1)] := hl
  obtain ⟨hx, hb, hml, hown, hts, hK, hA, hZ, hlocks, hr, hN⟩ := id C
  unfold f_Arrays_fill_J at hf
  refine lv_iconst (v := 0) hx hb d_Arrays_fill_J_0 (by decide) ?_
  refine lv_istore_n (lv' := [(3, .int 0), (0, .ref (q 33)), (1, .long x1)]) hx hb d_Arrays_fill_J_1 rfl hl (by decide) rfl (fun ls hl => ?_)
  refine lv_aload_n hx hb d_Arrays_fill_J_2 rfl (lv_at hl 1 rfl) ?_
  refine xn_33 C w d_Arrays_fill_J_3 ?_
  refine lv_istore (lv' := [(4, .int 64), (3, .int 0), (0, .ref (q 33)), (1, .long x1)]) hx hb d_Arrays_fill_J_4 hl (by decide) rfl (fun ls hl => ?_)
  exact t_Arrays_fill_J_6 C  FU x1 0 64 σ _ _ _ hf w (lv_sub hl [2, 3, 1, 0] rfl)
def f_Arrays_fill_I_5b (k5 : Int32 → Int32 → Int32 → St → Option (St)) (x1 : Int32) (x2 : Int32) (x3 : Int32) (σ : St) : Option (St) :=
  if x3 ≤ x2 then
    some σ
  else
    gd (inB x2 192) <|
    lt (uA σ 20 (upd (sA σ 20) x2.toNatClampNeg x1)) fun σ_2 =>
    lt ((x2 + 1)) fun x_3 =>
    k5 x1 x_3 x3 σ_2
def f_Arrays_fill_I_5 : Nat → Int32 → Int32 → Int32 → St → Option (St)
  | 0 => fun _ _ _ _ => none
  | n + 1 => f_Arrays_fill_I_5b   (f_Arrays_fill_I_5   n)
def f_Arrays_fill_I (x1 : Int32) (σ : St) : Option (St) :=
  f_Arrays_fill_I_5 FU x1 0 192 σ
set_option maxHeartbeats 4000000 in
set_option maxRecDepth 20000 in
theorem t_Arrays_fill_I_5b {σ2 : St} (C : Cx g A p s m av meth c prog_19_method_103_code 4 "java/util/Arrays" none) {k5 : Int32 → Int32 → Int32 → St → Option (St)} (hk5 : ∀ (x1 : Int32) (x2 : Int32) (x3 : Int32) (σ : St) (H : Heap) (locs : List Loc) (ls : Array Slot), k5 x1 x2 x3 σ = some σ2 → Wd g (wX g q) A s σ H locs → lv_has ls 4 [(0, .ref (q 32)), (1, .int x1), (2, .int x2), (3, .int x3)] → WK p l e s m av below meth c 0 g (wX g q) A none σ2 H locs (F0 m 5 ls []))  {x1 : Int32} {x2 : Int32} {x3 : Int32} {σ : St} {H : Heap} {locs : List Loc} {ls : Array Slot} (hf : f_Arrays_fill_I_5b  k5 x1 x2 x3 σ = some σ2) (w : Wd g (wX g q) A s σ H locs) (hl : lv_has ls 4 [(0, .ref (q 32)), (1, .int x1), (2, .int x2), (3, .int x3)]) : WK p l e s m av below meth c 0 g (wX g q) A none σ2 H locs (F0 m 5 ls []) := by
  obtain ⟨hx, hb, hml, hown, hts, hK, hA, hZ, hlocks, hr, hN⟩ := id C
  unfold f_Arrays_fill_I_5b at hf
  refine lv_iload_n hx hb d_Arrays_fill_I_5 rfl (lv_at hl 2 rfl) ?_
  refine lv_iload_n hx hb d_Arrays_fill_I_6 rfl (lv_at hl 3 rfl) ?_
  refine lv_icmp_ge (tgt := 20) hx hb d_Arrays_fill_I_7 (by decide) (fun cd => ?_) (fun cd => ?_)
  · have hf := it_e cd hf
    cases some_e hf
    exact k_vret C w d_Arrays_fill_I_20
  · have hf := if_e cd hf
    refine lv_aload_n hx hb d_Arrays_fill_I_10 rfl (lv_at hl 0 rfl) ?_
    refine lv_iload_n hx hb d_Arrays_fill_I_11 rfl (lv_at hl 2 rfl) ?_
    refine lv_iload_n hx hb d_Arrays_fill_I_12 rfl (lv_at hl 1 rfl) ?_
    obtain ⟨g_1, hf⟩ := gd_e hf
    refine xs_32 C w g_1 d_Arrays_fill_I_13 (fun σ_2 H locs eσ_2 w => ?_)
    have hf := lt_e eσ_2 hf
    obtain ⟨x_3, ex_3⟩ : ∃ y : Int32, y = (x2 + 1) := ⟨_, rfl⟩
    have hf := lt_e ex_3 hf
    refine lv_iinc (v := x_3) (lv' := [(2, .int x_3), (0, .ref (q 32)), (1, .int x1), (3, .int x3)]) hx hb d_Arrays_fill_I_14 hl (k := 2) rfl (by rw [ex_3]; rfl) (by decide) rfl (fun ls hl => ?_)
    refine lv_goto (tgt := 5) hx hb d_Arrays_fill_I_17 (by decide) ?_
    exact hk5 x1 x_3 x3 σ_2 _ _ _ hf w (lv_sub hl [1, 2, 0, 3] rfl)
set_option maxHeartbeats 4000000 in
set_option maxRecDepth 20000 in
theorem t_Arrays_fill_I_5 {σ2 : St} (C : Cx g A p s m av meth c prog_19_method_103_code 4 "java/util/Arrays" none)  : ∀ (n : Nat) (x1 : Int32) (x2 : Int32) (x3 : Int32) (σ : St) (H : Heap) (locs : List Loc) (ls : Array Slot), f_Arrays_fill_I_5   n x1 x2 x3 σ = some σ2 → Wd g (wX g q) A s σ H locs → lv_has ls 4 [(0, .ref (q 32)), (1, .int x1), (2, .int x2), (3, .int x3)] → WK p l e s m av below meth c 0 g (wX g q) A none σ2 H locs (F0 m 5 ls []) := by
  intro n
  induction n with
  | zero => intro x1 x2 x3 σ H locs ls hf; exact absurd hf (by intro z; cases z)
  | succ n ih => intro x1 x2 x3 σ H locs ls hf w hl; exact t_Arrays_fill_I_5b C  ih hf w hl
set_option maxHeartbeats 4000000 in
set_option maxRecDepth 20000 in
theorem c_Arrays_fill_I {l : Launch} {g : GX} {q : Nat → Nat} {x1 : Int32}  {σ : St} {σ2 : St} (hf : f_Arrays_fill_I  x1 σ = some σ2) : KK l y_Arrays_fill_I prog_19_method_103_code 4 none 0 g (wX g q) σ [.ref (q 32), .int x1] none (wX g q) σ2 := by
  refine KK_of (by decide +kernel) (Nat.le_of_ble_eq_true rfl) (fun p e s m below meth c A ls C w hl => ?_)
  have hl : lv_has ls 4 [(0, .ref (q 32)), (1, .int x1)] := hl
  obtain ⟨hx, hb, hml, hown, hts, hK, hA, hZ, hlocks, hr, hN⟩ := id C
  unfold f_Arrays_fill_I at hf
  refine lv_iconst (v := 0) hx hb d_Arrays_fill_I_0 (by decide) ?_
  refine lv_istore_n (lv' := [(2, .int 0), (0, .ref (q 32)), (1, .int x1)]) hx hb d_Arrays_fill_I_1 rfl hl (by decide) rfl (fun ls hl => ?_)
  refine lv_aload_n hx hb d_Arrays_fill_I_2 rfl (lv_at hl 1 rfl) ?_
  refine xn_32 C w d_Arrays_fill_I_3 ?_
  refine lv_istore_n (lv' := [(3, .int 192), (2, .int 0), (0, .ref (q 32)), (1, .int x1)]) hx hb d_Arrays_fill_I_4 rfl hl (by decide) rfl (fun ls hl => ?_)
  exact t_Arrays_fill_I_5 C  FU x1 0 192 σ _ _ _ hf w (lv_sub hl [2, 3, 1, 0] rfl)
def f_Arrays_fill_J_2_6b (k6 : Int64 → Int32 → Int32 → St → Option (St)) (x1 : Int64) (x3 : Int32) (x4 : Int32) (σ : St) : Option (St) :=
  if x4 ≤ x3 then
    some σ
  else
    gd (inB x3 192) <|
    lt (uB σ 0 (vp_updL (sB σ 0) x3.toNatClampNeg x1)) fun σ_2 =>
    lt ((x3 + 1)) fun x_3 =>
    k6 x1 x_3 x4 σ_2
def f_Arrays_fill_J_2_6 : Nat → Int64 → Int32 → Int32 → St → Option (St)
  | 0 => fun _ _ _ _ => none
  | n + 1 => f_Arrays_fill_J_2_6b   (f_Arrays_fill_J_2_6   n)
def f_Arrays_fill_J_2 (x1 : Int64) (σ : St) : Option (St) :=
  f_Arrays_fill_J_2_6 FU x1 0 192 σ
set_option maxHeartbeats 4000000 in
set_option maxRecDepth 20000 in
theorem t_Arrays_fill_J_2_6b {σ2 : St} (C : Cx g A p s m av meth c prog_19_method_101_code 5 "java/util/Arrays" none) {k6 : Int64 → Int32 → Int32 → St → Option (St)} (hk6 : ∀ (x1 : Int64) (x3 : Int32) (x4 : Int32) (σ : St) (H : Heap) (locs : List Loc) (ls : Array Slot), k6 x1 x3 x4 σ = some σ2 → Wd g (wX g q) A s σ H locs → lv_has ls 5 [(0, .ref (q 31)), (1, .long x1), (3, .int x3), (4, .int x4)] → WK p l e s m av below meth c 0 g (wX g q) A none σ2 H locs (F0 m 6 ls []))  {x1 : Int64} {x3 : Int32} {x4 : Int32} {σ : St} {H : Heap} {locs : List Loc} {ls : Array Slot} (hf : f_Arrays_fill_J_2_6b  k6 x1 x3 x4 σ = some σ2) (w : Wd g (wX g q) A s σ H locs) (hl : lv_has ls 5 [(0, .ref (q 31)), (1, .long x1), (3, .int x3), (4, .int x4)]) : WK p l e s m av below meth c 0 g (wX g q) A none σ2 H locs (F0 m 6 ls []) := by
  obtain ⟨hx, hb, hml, hown, hts, hK, hA, hZ, hlocks, hr, hN⟩ := id C
  unfold f_Arrays_fill_J_2_6b at hf
  refine lv_iload_n hx hb d_Arrays_fill_J_6 rfl (lv_at hl 2 rfl) ?_
  refine lv_iload hx hb d_Arrays_fill_J_7 (lv_at hl 3 rfl) ?_
  refine lv_icmp_ge (tgt := 22) hx hb d_Arrays_fill_J_9 (by decide) (fun cd => ?_) (fun cd => ?_)
  · have hf := it_e cd hf
    cases some_e hf
    exact k_vret C w d_Arrays_fill_J_22
  · have hf := if_e cd hf
    refine lv_aload_n hx hb d_Arrays_fill_J_12 rfl (lv_at hl 0 rfl) ?_
    refine lv_iload_n hx hb d_Arrays_fill_J_13 rfl (lv_at hl 2 rfl) ?_
    refine lv_lload_n hx hb d_Arrays_fill_J_14 rfl (lv_at hl 1 rfl) ?_
    obtain ⟨g_1, hf⟩ := gd_e hf
    refine xs_31 C w g_1 d_Arrays_fill_J_15 (fun σ_2 H locs eσ_2 w => ?_)
    have hf := lt_e eσ_2 hf
    obtain ⟨x_3, ex_3⟩ : ∃ y : Int32, y = (x3 + 1) := ⟨_, rfl⟩
    have hf := lt_e ex_3 hf
    refine lv_iinc (v := x_3) (lv' := [(3, .int x_3), (0, .ref (q 31)), (1, .long x1), (4, .int x4)]) hx hb d_Arrays_fill_J_16 hl (k := 2) rfl (by rw [ex_3]; rfl) (by decide) rfl (fun ls hl => ?_)
    refine lv_goto (tgt := 6) hx hb d_Arrays_fill_J_19 (by decide) ?_
    exact hk6 x1 x_3 x4 σ_2 _ _ _ hf w (lv_sub hl [1, 2, 0, 3] rfl)
set_option maxHeartbeats 4000000 in
set_option maxRecDepth 20000 in
theorem t_Arrays_fill_J_2_6 {σ2 : St} (C : Cx g A p s m av meth c prog_19_method_101_code 5 "java/util/Arrays" none)  : ∀ (n : Nat) (x1 : Int64) (x3 : Int32) (x4 : Int32) (σ : St) (H : Heap) (locs : List Loc) (ls : Array Slot), f_Arrays_fill_J_2_6   n x1 x3 x4 σ = some σ2 → Wd g (wX g q) A s σ H locs → lv_has ls 5 [(0, .ref (q 31)), (1, .long x1), (3, .int x3), (4, .int x4)] → WK p l e s m av below meth c 0 g (wX g q) A none σ2 H locs (F0 m 6 ls []) := by
  intro n
  induction n with
  | zero => intro x1 x3 x4 σ H locs ls hf; exact absurd hf (by intro z; cases z)
  | succ n ih => intro x1 x3 x4 σ H locs ls hf w hl; exact t_Arrays_fill_J_2_6b C  ih hf w hl
set_option maxHeartbeats 4000000 in
set_option maxRecDepth 20000 in
theorem c_Arrays_fill_J_2 {l : Launch} {g : GX} {q : Nat → Nat} {x1 : Int64}  {σ : St} {σ2 : St} (hf : f_Arrays_fill_J_2  x1 σ = some σ2) : KK l y_Arrays_fill_J prog_19_method_101_code 5 none 0 g (wX g q) σ [.ref (q 31), .long x1] none (wX g q) σ2 := by
  refine KK_of (by decide +kernel) (Nat.le_of_ble_eq_true rfl) (fun p e s m below meth c A ls C w hl => ?_)
  have hl : lv_has ls 5 [(0, .ref (q 31)), (1, .long x1)] := hl
  obtain ⟨hx, hb, hml, hown, hts, hK, hA, hZ, hlocks, hr, hN⟩ := id C
  unfold f_Arrays_fill_J_2 at hf
  refine lv_iconst (v := 0) hx hb d_Arrays_fill_J_0 (by decide) ?_
  refine lv_istore_n (lv' := [(3, .int 0), (0, .ref (q 31)), (1, .long x1)]) hx hb d_Arrays_fill_J_1 rfl hl (by decide) rfl (fun ls hl => ?_)
  refine lv_aload_n hx hb d_Arrays_fill_J_2 rfl (lv_at hl 1 rfl) ?_
  refine xn_31 C w d_Arrays_fill_J_3 ?_
  refine lv_istore (lv' := [(4, .int 192), (3, .int 0), (0, .ref (q 31)), (1, .long x1)]) hx hb d_Arrays_fill_J_4 hl (by decide) rfl (fun ls hl => ?_)
  exact t_Arrays_fill_J_2_6 C  FU x1 0 192 σ _ _ _ hf w (lv_sub hl [2, 3, 1, 0] rfl)
def f_Turn_crowdBehind (x1 : Int32) (x2 : Int32) (σ : St) : Option (Int32) :=
  some (iMin 999 (((sI σ 51) + (x2 * (sA σ 17 (1 : Int32).toNatClampNeg))) + ((x1 - x2) * (sA σ 17 (2 : Int32).toNatClampNeg))))
set_option maxHeartbeats 4000000 in
set_option maxRecDepth 20000 in
theorem c_Turn_crowdBehind {l : Launch} {g : GX} {q : Nat → Nat} {x1 : Int32} {x2 : Int32}  {σ : St} {r : Int32} (hf : f_Turn_crowdBehind  x1 x2 σ = some r) : KK l y_Turn_crowdBehind prog_10_method_9_code 3 (some .int) 1 g (wX g q) σ [.ref (q 26), .int x1, .int x2] (some (.int r)) (wX g q) σ := by
  refine KK_of (plainFor_of_name (by decide)) (Nat.le_of_ble_eq_true rfl) (fun p e s m below meth c A ls C w hl => ?_)
  have hl : lv_has ls 3 [(0, .ref (q 26)), (1, .int x1), (2, .int x2)] := hl
  obtain ⟨hx, hb, hml, hown, hts, hK, hA, hZ, hlocks, hr, hN⟩ := id C
  unfold f_Turn_crowdBehind at hf
  refine lv_sipush (v := 999) hx hb d_Turn_crowdBehind_0 (by decide) ?_
  refine lv_aload_n hx hb d_Turn_crowdBehind_3 rfl (lv_at hl 0 rfl) ?_
  refine xg_26_crowd C w k422 d_Turn_crowdBehind_4 ?_
  refine lv_iload_n hx hb d_Turn_crowdBehind_7 rfl (lv_at hl 2 rfl) ?_
  refine lv_aload_n hx hb d_Turn_crowdBehind_8 rfl (lv_at hl 0 rfl) ?_
  refine xg_26_comes C w k424 d_Turn_crowdBehind_9 ?_
  refine lv_iconst (v := 1) hx hb d_Turn_crowdBehind_12 (by decide) ?_
  refine xl_27 C w (by decide) d_Turn_crowdBehind_13 ?_
  refine lv_imul hx hb d_Turn_crowdBehind_14 ?_
  refine lv_iadd hx hb d_Turn_crowdBehind_15 ?_
  refine lv_iload_n hx hb d_Turn_crowdBehind_16 rfl (lv_at hl 1 rfl) ?_
  refine lv_iload_n hx hb d_Turn_crowdBehind_17 rfl (lv_at hl 2 rfl) ?_
  refine lv_isub hx hb d_Turn_crowdBehind_18 ?_
  refine lv_aload_n hx hb d_Turn_crowdBehind_19 rfl (lv_at hl 0 rfl) ?_
  refine xg_26_comes C w k424 d_Turn_crowdBehind_20 ?_
  refine lv_iconst (v := 2) hx hb d_Turn_crowdBehind_23 (by decide) ?_
  refine xl_27 C w (by decide) d_Turn_crowdBehind_24 ?_
  refine lv_imul hx hb d_Turn_crowdBehind_25 ?_
  refine lv_iadd hx hb d_Turn_crowdBehind_26 ?_
  refine r_min C hl.1 (by omega) (Nat.le_of_ble_eq_true rfl) k786 d_Turn_crowdBehind_27 ?_
  cases some_e hf
  exact k_iret C w d_Turn_crowdBehind_30
def f_Tree_rulesAt_67 (x2 : Int32) (σ : St) : Option (Int32 × St) :=
  gd (inB x2 192) <|
  some ((sA σ 20 x2.toNatClampNeg), σ)
def f_Tree_rulesAt (x2 : Int32) (x3 : Int32) (x4 : Int32) (x5 : Int32) (σ : St) : Option (Int32 × St) :=
  gd (inB x2 192) <|
  if (sA σ 20 x2.toNatClampNeg) = (-1) then
    bp (f_Turn_crowdBehind x3 x4 σ) fun r_3 =>
    bp (f_Showman_look_2 r_3 x3 x5 0 σ) fun σ_5 =>
    bp (f_Turn_coinsBehind x3 σ_5) fun r_7 =>
    bp (f_Showman_lookAt_2 (sI σ_5 45) r_7 σ_5) fun σ_9 =>
    bd (f_Showman_rulesThatHold_2 σ_9) fun r_11 σ_12 =>
    gd (inB x2 192) <|
    lt (uA σ_12 20 (upd (sA σ_12 20) x2.toNatClampNeg r_11)) fun σ_14 =>
    f_Tree_rulesAt_67 x2 σ_14
  else
    f_Tree_rulesAt_67 x2 σ
set_option maxHeartbeats 4000000 in
set_option maxRecDepth 20000 in
theorem t_Tree_rulesAt_67 {r : Int32} {σ2 : St} (C : Cx g A p s m av meth c prog_9_method_11_code 6 "BellHammer$Tree" (some .int))  {x2 : Int32} {σ : St} {H : Heap} {locs : List Loc} {ls : Array Slot} (hf : f_Tree_rulesAt_67   x2 σ = some (r, σ2)) (w : Wd g (wX g q) A s σ H locs) (hl : lv_has ls 6 [(0, .ref (q 25)), (2, .int x2)]) : WK p l e s m av below meth c 4 g (wX g q) A (some (.int r)) σ2 H locs (F0 m 67 ls []) := by
  obtain ⟨hx, hb, hml, hown, hts, hK, hA, hZ, hlocks, hr, hN⟩ := id C
  unfold f_Tree_rulesAt_67 at hf
  refine lv_aload_n hx hb d_Tree_rulesAt_67 rfl (lv_at hl 0 rfl) ?_
  refine xg_25_knownRules C w k475 d_Tree_rulesAt_68 ?_
  refine lv_iload_n hx hb d_Tree_rulesAt_71 rfl (lv_at hl 1 rfl) ?_
  obtain ⟨g_1, hf⟩ := gd_e hf
  refine xl_32 C w g_1 d_Tree_rulesAt_72 ?_
  obtain ⟨rfl, rfl⟩ := some2_e hf
  exact k_iret C w d_Tree_rulesAt_73
set_option maxHeartbeats 4000000 in
set_option maxRecDepth 20000 in
theorem c_Tree_rulesAt {l : Launch} {g : GX} {q : Nat → Nat} {x2 : Int32} {x3 : Int32} {x4 : Int32} {x5 : Int32}  {σ : St} {r : Int32} {σ2 : St} (hf : f_Tree_rulesAt  x2 x3 x4 x5 σ = some (r, σ2)) : KK l y_Tree_rulesAt prog_9_method_11_code 6 (some .int) 4 g (wX g q) σ [.ref (q 25), .ref (q 34), .int x2, .int x3, .int x4, .int x5] (some (.int r)) (wX g q) σ2 := by
  refine KK_of (plainFor_of_name (by decide)) (Nat.le_of_ble_eq_true rfl) (fun p e s m below meth c A ls C w hl => ?_)
  have hl : lv_has ls 6 [(0, .ref (q 25)), (1, .ref (q 34)), (2, .int x2), (3, .int x3), (4, .int x4), (5, .int x5)] := hl
  obtain ⟨hx, hb, hml, hown, hts, hK, hA, hZ, hlocks, hr, hN⟩ := id C
  unfold f_Tree_rulesAt at hf
  refine lv_aload_n hx hb d_Tree_rulesAt_0 rfl (lv_at hl 0 rfl) ?_
  refine xg_25_knownRules C w k475 d_Tree_rulesAt_1 ?_
  refine lv_iload_n hx hb d_Tree_rulesAt_4 rfl (lv_at hl 2 rfl) ?_
  obtain ⟨g_1, hf⟩ := gd_e hf
  refine xl_32 C w g_1 d_Tree_rulesAt_5 ?_
  refine lv_iconst (v := (-1)) hx hb d_Tree_rulesAt_6 (by decide) ?_
  refine lv_icmp_ne (tgt := 67) hx hb d_Tree_rulesAt_7 (by decide) (fun cd => ?_) (fun cd => ?_)
  · have hf := if_e cd hf
    exact t_Tree_rulesAt_67 C  hf w (lv_sub hl [0, 2] rfl)
  · have hf := it_e cd hf
    refine lv_aload_n hx hb d_Tree_rulesAt_10 rfl (lv_at hl 0 rfl) ?_
    refine xg_25_showman C w k464 d_Tree_rulesAt_11 ?_
    refine lv_aload_n hx hb d_Tree_rulesAt_14 rfl (lv_at hl 0 rfl) ?_
    refine xg_25_turn C w k462 d_Tree_rulesAt_15 ?_
    refine lv_iload_n hx hb d_Tree_rulesAt_18 rfl (lv_at hl 3 rfl) ?_
    refine lv_iload hx hb d_Tree_rulesAt_19 (lv_at hl 4 rfl) ?_
    obtain ⟨r_3, h_2, hf⟩ := bp_e hf
    refine k_callV (As := [.int x3, .int x4]) (rest := [.ref (q 28)]) C w (c_Turn_crowdBehind (q := q) h_2) cv_Turn_crowdBehind k914 (xr_26 C w) (by decide) hl.1 rfl (Nat.le_of_ble_eq_true rfl) d_Tree_rulesAt_21 (fun H locs w => ?_)
    show WK p l e s m _ below meth c 4 g (wX g q) A (some (.int r)) σ2 H locs (F0 m 24 ls [.int r_3, .ref (q 28)])
    refine lv_iload_n hx hb d_Tree_rulesAt_24 rfl (lv_at hl 3 rfl) ?_
    refine lv_iload hx hb d_Tree_rulesAt_25 (lv_at hl 5 rfl) ?_
    refine lv_iconst (v := 0) hx hb d_Tree_rulesAt_27 (by decide) ?_
    obtain ⟨σ_5, h_4, hf⟩ := bp_e hf
    refine k_callV (As := [.int r_3, .int x3, .int x5, .int 0]) (rest := []) C w (c_Showman_look_2 (q := q) h_4) cv_Showman_look k864 (xr_28 C w) (by decide) hl.1 rfl (Nat.le_of_ble_eq_true rfl) d_Tree_rulesAt_28 (fun H locs w => ?_)
    show WK p l e s m _ below meth c 4 g (wX g q) A (some (.int r)) σ2 H locs (F0 m 31 ls [])
    refine lv_aload_n hx hb d_Tree_rulesAt_31 rfl (lv_at hl 0 rfl) ?_
    refine xg_25_showman C w k464 d_Tree_rulesAt_32 ?_
    refine lv_aload_n hx hb d_Tree_rulesAt_35 rfl (lv_at hl 0 rfl) ?_
    refine xg_25_turn C w k462 d_Tree_rulesAt_36 ?_
    refine xg_26_lady C w k413 d_Tree_rulesAt_39 ?_
    refine lv_aload_n hx hb d_Tree_rulesAt_42 rfl (lv_at hl 0 rfl) ?_
    refine xg_25_turn C w k462 d_Tree_rulesAt_43 ?_
    refine lv_iload_n hx hb d_Tree_rulesAt_46 rfl (lv_at hl 3 rfl) ?_
    obtain ⟨r_7, h_6, hf⟩ := bp_e hf
    refine k_callV (As := [.int x3]) (rest := [.int (sI σ_5 45), .ref (q 28)]) C w (c_Turn_coinsBehind (q := q) h_6) cv_Turn_coinsBehind k865 (xr_26 C w) (by decide) hl.1 rfl (Nat.le_of_ble_eq_true rfl) d_Tree_rulesAt_47 (fun H locs w => ?_)
    show WK p l e s m _ below meth c 4 g (wX g q) A (some (.int r)) σ2 H locs (F0 m 50 ls [.int r_7, .int (sI σ_5 45), .ref (q 28)])
    obtain ⟨σ_9, h_8, hf⟩ := bp_e hf
    refine k_callV (As := [.int (sI σ_5 45), .int r_7]) (rest := []) C w (c_Showman_lookAt_2 (q := q) h_8) cv_Showman_lookAt k866 (xr_28 C w) (by decide) hl.1 rfl (Nat.le_of_ble_eq_true rfl) d_Tree_rulesAt_50 (fun H locs w => ?_)
    show WK p l e s m _ below meth c 4 g (wX g q) A (some (.int r)) σ2 H locs (F0 m 53 ls [])
    refine lv_aload_n hx hb d_Tree_rulesAt_53 rfl (lv_at hl 0 rfl) ?_
    refine xg_25_knownRules C w k475 d_Tree_rulesAt_54 ?_
    refine lv_iload_n hx hb d_Tree_rulesAt_57 rfl (lv_at hl 2 rfl) ?_
    refine lv_aload_n hx hb d_Tree_rulesAt_58 rfl (lv_at hl 0 rfl) ?_
    refine xg_25_showman C w k464 d_Tree_rulesAt_59 ?_
    refine lv_aload_n hx hb d_Tree_rulesAt_62 rfl (lv_at hl 1 rfl) ?_
    obtain ⟨r_11, σ_12, h_10, hf⟩ := bd_e hf
    refine k_callV (As := [.ref (q 34)]) (rest := [.int x2, .ref (q 32)]) C w (c_Showman_rulesThatHold_2 (q := q) h_10) cv_Showman_rulesThatHold k867 (xr_28 C w) (by decide) hl.1 rfl (Nat.le_of_ble_eq_true rfl) d_Tree_rulesAt_63 (fun H locs w => ?_)
    show WK p l e s m _ below meth c 4 g (wX g q) A (some (.int r)) σ2 H locs (F0 m 66 ls [.int r_11, .int x2, .ref (q 32)])
    obtain ⟨g_13, hf⟩ := gd_e hf
    refine xs_32 C w g_13 d_Tree_rulesAt_66 (fun σ_14 H locs eσ_14 w => ?_)
    have hf := lt_e eσ_14 hf
    exact t_Tree_rulesAt_67 C  hf w (lv_sub hl [0, 2] rfl)
def f_Tree_blowsFrom_171 (kB : Int32 → Int32 → Int32 → Int32 → Int32 → Int64 → St → Option (Int64 × St)) (k98 : Int32 → Int32 → Int32 → Int64 → Int32 → Int32 → Int64 → Int32 → St → Option (Int64 × St)) (x2 : Int32) (x3 : Int32) (x4 : Int32) (x7 : Int64) (x9 : Int32) (x10 : Int32) (x13 : Int32) (x14 : Int32) (t0 : Int32) (t1 : Int32) (t2 : Int32) (t3 : Int32) (t6 : Int64) (σ : St) : Option (Int64 × St) :=
  bd (kB t3 t2 t1 t0 x14 (x7 / 60) σ) fun r_2 σ_3 =>
  lt ((t6 + r_2)) fun x_4 =>
  lt ((x13 + 1)) fun x_5 =>
  k98 x2 x3 x4 x7 x9 x10 x_4 x_5 σ_3
def f_Tree_blowsFrom_143 (kB : Int32 → Int32 → Int32 → Int32 → Int32 → Int64 → St → Option (Int64 × St)) (k98 : Int32 → Int32 → Int32 → Int64 → Int32 → Int32 → Int64 → Int32 → St → Option (Int64 × St)) (x2 : Int32) (x3 : Int32) (x4 : Int32) (x7 : Int64) (x9 : Int32) (x10 : Int32) (x11 : Int64) (x13 : Int32) (x14 : Int32) (t0 : Int32) (t1 : Int32) (σ : St) : Option (Int64 × St) :=
  lt ((t1 + t0)) fun x_1 =>
  if x10 = 0 then
    f_Tree_blowsFrom_171 kB k98 x2 x3 x4 x7 x9 x10 x13 x14 x13 x_1 (x3 + 1) x2 x11 σ
  else
    f_Tree_blowsFrom_171 kB k98 x2 x3 x4 x7 x9 x10 x13 x14 (x13 + 6) x_1 (x3 + 1) x2 x11 σ
def f_Tree_blowsFrom_98b (kB : Int32 → Int32 → Int32 → Int32 → Int32 → Int64 → St → Option (Int64 × St)) (k98 : Int32 → Int32 → Int32 → Int64 → Int32 → Int32 → Int64 → Int32 → St → Option (Int64 × St)) (x2 : Int32) (x3 : Int32) (x4 : Int32) (x7 : Int64) (x9 : Int32) (x10 : Int32) (x11 : Int64) (x13 : Int32) (σ : St) : Option (Int64 × St) :=
  if (sI σ 41) < x13 then
    bp (f_Tree_shareOf 60 σ) fun r_2 =>
    gd (inB x9 192) <|
    lt (uB σ 0 (vp_updL (sB σ 0) x9.toNatClampNeg (x7 + (x11 * r_2)))) fun σ_4 =>
    gd (inB x9 192) <|
    some ((sB σ_4 0 x9.toNatClampNeg), σ_4)
  else
    bp (f_Turn_height_2 x3 x13 x10 σ) fun r_7 =>
    bp (f_Turn_isNear r_7 σ) fun r_9 =>
    if r_9 = 0 then
      f_Tree_blowsFrom_143 kB k98 x2 x3 x4 x7 x9 x10 x11 x13 r_7 0 x4 σ
    else
      f_Tree_blowsFrom_143 kB k98 x2 x3 x4 x7 x9 x10 x11 x13 r_7 1 x4 σ
def f_Tree_blowsFrom_98 (kB : Int32 → Int32 → Int32 → Int32 → Int32 → Int64 → St → Option (Int64 × St)) : Nat → Int32 → Int32 → Int32 → Int64 → Int32 → Int32 → Int64 → Int32 → St → Option (Int64 × St)
  | 0 => fun _ _ _ _ _ _ _ _ _ => none
  | n + 1 => f_Tree_blowsFrom_98b kB  (f_Tree_blowsFrom_98 kB  n)
def f_Tree_blowsFrom_90 (kB : Int32 → Int32 → Int32 → Int32 → Int32 → Int64 → St → Option (Int64 × St)) (x2 : Int32) (x3 : Int32) (x4 : Int32) (x7 : Int64) (x9 : Int32) (t0 : Int32) (σ : St) : Option (Int64 × St) :=
  f_Tree_blowsFrom_98 kB FU x2 x3 x4 x7 x9 t0 0 0 σ
def f_Tree_blowsFrom_89 (kB : Int32 → Int32 → Int32 → Int32 → Int32 → Int64 → St → Option (Int64 × St)) (x2 : Int32) (x3 : Int32) (x4 : Int32) (x7 : Int64) (x9 : Int32) (σ : St) : Option (Int64 × St) :=
  f_Tree_blowsFrom_90 kB x2 x3 x4 x7 x9 0 σ
def f_Tree_blowsFromB (kB : Int32 → Int32 → Int32 → Int32 → Int32 → Int64 → St → Option (Int64 × St)) (x2 : Int32) (x3 : Int32) (x4 : Int32) (x5 : Int32) (x6 : Int32) (x7 : Int64) (σ : St) : Option (Int64 × St) :=
  lt (((((x3 * 4) + x4) * 12) + x5)) fun x_1 =>
  if x_1 < 0 then
    some (0, σ)
  else
    if 192 ≤ x_1 then
      some (0, σ)
    else
      bp (f_Turn_goesOn x3 x6 σ) fun r_3 =>
      if r_3 = 0 then
        some (0, σ)
      else
        gd (inB x_1 192) <|
        if (lg_cmp (sB σ 0 x_1.toNatClampNeg) (-1)) = 0 then
          if x2 = 0 then
            f_Tree_blowsFrom_89 kB x2 x3 x4 x7 x_1 σ
          else
            bd (f_Tree_rulesAt x_1 x3 x4 x6 σ) fun r_6 σ_7 =>
            if (r_6 &&& x2) = 0 then
              f_Tree_blowsFrom_89 kB x2 x3 x4 x7 x_1 σ_7
            else
              f_Tree_blowsFrom_90 kB x2 x3 x4 x7 x_1 1 σ_7
        else
          gd (inB x_1 192) <|
          some ((sB σ 0 x_1.toNatClampNeg), σ)
def f_Tree_blowsFrom : Nat → Int32 → Int32 → Int32 → Int32 → Int32 → Int64 → St → Option (Int64 × St)
  | 0 => fun _ _ _ _ _ _ _ => none
  | d + 1 => f_Tree_blowsFromB (f_Tree_blowsFrom d)
set_option maxHeartbeats 4000000 in
set_option maxRecDepth 20000 in
theorem t_Tree_blowsFrom_171 {r : Int64} {σ2 : St} (C : Cx g A p s m av meth c prog_9_method_10_code 16 "BellHammer$Tree" (some .long)) {nk : Nat} (hnk : 5 ≤ nk) {kB : Int32 → Int32 → Int32 → Int32 → Int32 → Int64 → St → Option (Int64 × St)} (hkB : ∀ (a1 : Int32) (a2 : Int32) (a3 : Int32) (a4 : Int32) (a5 : Int32) (a6 : Int64) (σ : St) (r : Int64) (σ2 : St), kB a1 a2 a3 a4 a5 a6 σ = some (r, σ2) → KK l y_Tree_blowsFrom prog_9_method_10_code 16 (some .long) nk g (wX g q) σ [.ref (q 25), .ref (q 34), .int a1, .int a2, .int a3, .int a4, .int a5, .long a6] (some (.long r)) (wX g q) σ2) {k98 : Int32 → Int32 → Int32 → Int64 → Int32 → Int32 → Int64 → Int32 → St → Option (Int64 × St)} (hk98 : ∀ (x2 : Int32) (x3 : Int32) (x4 : Int32) (x7 : Int64) (x9 : Int32) (x10 : Int32) (x11 : Int64) (x13 : Int32) (σ : St) (H : Heap) (locs : List Loc) (ls : Array Slot), k98 x2 x3 x4 x7 x9 x10 x11 x13 σ = some (r, σ2) → Wd g (wX g q) A s σ H locs → lv_has ls 16 [(0, .ref (q 25)), (1, .ref (q 34)), (2, .int x2), (3, .int x3), (4, .int x4), (7, .long x7), (9, .int x9), (10, .int x10), (11, .long x11), (13, .int x13)] → WK p l e s m av below meth c (nk + 2) g (wX g q) A (some (.long r)) σ2 H locs (F0 m 98 ls []))  {x2 : Int32} {x3 : Int32} {x4 : Int32} {x7 : Int64} {x9 : Int32} {x10 : Int32} {x13 : Int32} {x14 : Int32} {t0 : Int32} {t1 : Int32} {t2 : Int32} {t3 : Int32} {t6 : Int64} {σ : St} {H : Heap} {locs : List Loc} {ls : Array Slot} (hf : f_Tree_blowsFrom_171 kB k98 x2 x3 x4 x7 x9 x10 x13 x14 t0 t1 t2 t3 t6 σ = some (r, σ2)) (w : Wd g (wX g q) A s σ H locs) (hl : lv_has ls 16 [(0, .ref (q 25)), (1, .ref (q 34)), (2, .int x2), (3, .int x3), (4, .int x4), (7, .long x7), (9, .int x9), (10, .int x10), (13, .int x13), (14, .int x14)]) : WK p l e s m av below meth c (nk + 2) g (wX g q) A (some (.long r)) σ2 H locs (F0 m 171 ls [.int t0, .int t1, .int t2, .int t3, .ref (q 34), .ref (q 25), .long t6]) := by
  obtain ⟨hx, hb, hml, hown, hts, hK, hA, hZ, hlocks, hr, hN⟩ := id C
  unfold f_Tree_blowsFrom_171 at hf
  refine lv_iload hx hb d_Tree_blowsFrom_171 (lv_at hl 9 rfl) ?_
  refine lv_lload hx hb d_Tree_blowsFrom_173 (lv_at hl 5 rfl) ?_
  refine lv_ldc2 (v := 60) hx hb hown (hts _ k919) d_Tree_blowsFrom_175 ?_
  refine lv_ldiv hx hb d_Tree_blowsFrom_178 (by decide) ?_
  obtain ⟨r_2, σ_3, h_1, hf⟩ := bd_e hf
  refine k_callV (As := [.ref (q 34), .int t3, .int t2, .int t1, .int t0, .int x14, .long (x7 / 60)]) (rest := [.long t6]) C w (hkB _ _ _ _ _ _ _ _ _ h_1) cv_Tree_blowsFrom k906 (xr_25 C w) (by omega) hl.1 rfl (Nat.le_of_ble_eq_true rfl) d_Tree_blowsFrom_179 (fun H locs w => ?_)
  show WK p l e s m av below meth c (nk + 2) g (wX g q) A (some (.long r)) σ2 H locs (F0 m 182 ls [.long r_2, .long t6])
  refine lv_ladd hx hb d_Tree_blowsFrom_182 ?_
  refine lv_topl (fun x_4 ex_4 => ?_)
  have hf := lt_e ex_4 hf
  refine lv_lstore (lv' := [(11, .long x_4), (0, .ref (q 25)), (1, .ref (q 34)), (2, .int x2), (3, .int x3), (4, .int x4), (7, .long x7), (9, .int x9), (10, .int x10), (13, .int x13), (14, .int x14)]) hx hb d_Tree_blowsFrom_183 hl (by decide) rfl (fun ls hl => ?_)
  obtain ⟨x_5, ex_5⟩ : ∃ y : Int32, y = (x13 + 1) := ⟨_, rfl⟩
  have hf := lt_e ex_5 hf
  refine lv_iinc (v := x_5) (lv' := [(13, .int x_5), (11, .long x_4), (0, .ref (q 25)), (1, .ref (q 34)), (2, .int x2), (3, .int x3), (4, .int x4), (7, .long x7), (9, .int x9), (10, .int x10), (14, .int x14)]) hx hb d_Tree_blowsFrom_185 hl (k := 9) rfl (by rw [ex_5]; rfl) (by decide) rfl (fun ls hl => ?_)
  refine lv_goto (tgt := 98) hx hb d_Tree_blowsFrom_188 (by decide) ?_
  exact hk98 x2 x3 x4 x7 x9 x10 x_4 x_5 σ_3 _ _ _ hf w (lv_sub hl [2, 3, 4, 5, 6, 7, 8, 9, 1, 0] rfl)
set_option maxHeartbeats 4000000 in
set_option maxRecDepth 20000 in
theorem t_Tree_blowsFrom_143 {r : Int64} {σ2 : St} (C : Cx g A p s m av meth c prog_9_method_10_code 16 "BellHammer$Tree" (some .long)) {nk : Nat} (hnk : 5 ≤ nk) {kB : Int32 → Int32 → Int32 → Int32 → Int32 → Int64 → St → Option (Int64 × St)} (hkB : ∀ (a1 : Int32) (a2 : Int32) (a3 : Int32) (a4 : Int32) (a5 : Int32) (a6 : Int64) (σ : St) (r : Int64) (σ2 : St), kB a1 a2 a3 a4 a5 a6 σ = some (r, σ2) → KK l y_Tree_blowsFrom prog_9_method_10_code 16 (some .long) nk g (wX g q) σ [.ref (q 25), .ref (q 34), .int a1, .int a2, .int a3, .int a4, .int a5, .long a6] (some (.long r)) (wX g q) σ2) {k98 : Int32 → Int32 → Int32 → Int64 → Int32 → Int32 → Int64 → Int32 → St → Option (Int64 × St)} (hk98 : ∀ (x2 : Int32) (x3 : Int32) (x4 : Int32) (x7 : Int64) (x9 : Int32) (x10 : Int32) (x11 : Int64) (x13 : Int32) (σ : St) (H : Heap) (locs : List Loc) (ls : Array Slot), k98 x2 x3 x4 x7 x9 x10 x11 x13 σ = some (r, σ2) → Wd g (wX g q) A s σ H locs → lv_has ls 16 [(0, .ref (q 25)), (1, .ref (q 34)), (2, .int x2), (3, .int x3), (4, .int x4), (7, .long x7), (9, .int x9), (10, .int x10), (11, .long x11), (13, .int x13)] → WK p l e s m av below meth c (nk + 2) g (wX g q) A (some (.long r)) σ2 H locs (F0 m 98 ls []))  {x2 : Int32} {x3 : Int32} {x4 : Int32} {x7 : Int64} {x9 : Int32} {x10 : Int32} {x11 : Int64} {x13 : Int32} {x14 : Int32} {t0 : Int32} {t1 : Int32} {σ : St} {H : Heap} {locs : List Loc} {ls : Array Slot} (hf : f_Tree_blowsFrom_143 kB k98 x2 x3 x4 x7 x9 x10 x11 x13 x14 t0 t1 σ = some (r, σ2)) (w : Wd g (wX g q) A s σ H locs) (hl : lv_has ls 16 [(0, .ref (q 25)), (1, .ref (q 34)), (2, .int x2), (3, .int x3), (4, .int x4), (7, .long x7), (9, .int x9), (10, .int x10), (11, .long x11), (13, .int x13), (14, .int x14)]) : WK p l e s m av below meth c (nk + 2) g (wX g q) A (some (.long r)) σ2 H locs (F0 m 143 ls [.int t0, .int t1]) := by
  obtain ⟨hx, hb, hml, hown, hts, hK, hA, hZ, hlocks, hr, hN⟩ := id C
  unfold f_Tree_blowsFrom_143 at hf
  refine lv_iadd hx hb d_Tree_blowsFrom_143 ?_
  refine lv_topi (fun x_1 ex_1 => ?_)
  have hf := lt_e ex_1 hf
  refine lv_istore (lv' := [(15, .int x_1), (0, .ref (q 25)), (1, .ref (q 34)), (2, .int x2), (3, .int x3), (4, .int x4), (7, .long x7), (9, .int x9), (10, .int x10), (11, .long x11), (13, .int x13), (14, .int x14)]) hx hb d_Tree_blowsFrom_144 hl (by decide) rfl (fun ls hl => ?_)
  refine lv_lload hx hb d_Tree_blowsFrom_146 (lv_at hl 9 rfl) ?_
  refine lv_aload_n hx hb d_Tree_blowsFrom_148 rfl (lv_at hl 1 rfl) ?_
  refine lv_aload_n hx hb d_Tree_blowsFrom_149 rfl (lv_at hl 2 rfl) ?_
  refine lv_iload_n hx hb d_Tree_blowsFrom_150 rfl (lv_at hl 3 rfl) ?_
  refine lv_iload_n hx hb d_Tree_blowsFrom_151 rfl (lv_at hl 4 rfl) ?_
  refine lv_iconst (v := 1) hx hb d_Tree_blowsFrom_152 (by decide) ?_
  refine lv_iadd hx hb d_Tree_blowsFrom_153 ?_
  refine lv_iload hx hb d_Tree_blowsFrom_154 (lv_at hl 0 rfl) ?_
  refine lv_iload hx hb d_Tree_blowsFrom_156 (lv_at hl 8 rfl) ?_
  refine lv_if_eq (tgt := 169) hx hb d_Tree_blowsFrom_158 (by decide) (fun cd => ?_) (fun cd => ?_)
  · have hf := it_e cd hf
    refine lv_iload hx hb d_Tree_blowsFrom_169 (lv_at hl 10 rfl) ?_
    exact t_Tree_blowsFrom_171 C hnk hkB hk98 hf w (lv_sub hl [1, 2, 3, 4, 5, 6, 7, 8, 10, 11] rfl)
  · have hf := if_e cd hf
    refine lv_iload hx hb d_Tree_blowsFrom_161 (lv_at hl 10 rfl) ?_
    refine lv_bipush (v := 6) hx hb d_Tree_blowsFrom_163 (by decide) ?_
    refine lv_iadd hx hb d_Tree_blowsFrom_165 ?_
    refine lv_goto (tgt := 171) hx hb d_Tree_blowsFrom_166 (by decide) ?_
    exact t_Tree_blowsFrom_171 C hnk hkB hk98 hf w (lv_sub hl [1, 2, 3, 4, 5, 6, 7, 8, 10, 11] rfl)
set_option maxHeartbeats 4000000 in
set_option maxRecDepth 20000 in
theorem t_Tree_blowsFrom_98b {r : Int64} {σ2 : St} (C : Cx g A p s m av meth c prog_9_method_10_code 16 "BellHammer$Tree" (some .long)) {nk : Nat} (hnk : 5 ≤ nk) {kB : Int32 → Int32 → Int32 → Int32 → Int32 → Int64 → St → Option (Int64 × St)} (hkB : ∀ (a1 : Int32) (a2 : Int32) (a3 : Int32) (a4 : Int32) (a5 : Int32) (a6 : Int64) (σ : St) (r : Int64) (σ2 : St), kB a1 a2 a3 a4 a5 a6 σ = some (r, σ2) → KK l y_Tree_blowsFrom prog_9_method_10_code 16 (some .long) nk g (wX g q) σ [.ref (q 25), .ref (q 34), .int a1, .int a2, .int a3, .int a4, .int a5, .long a6] (some (.long r)) (wX g q) σ2) {k98 : Int32 → Int32 → Int32 → Int64 → Int32 → Int32 → Int64 → Int32 → St → Option (Int64 × St)} (hk98 : ∀ (x2 : Int32) (x3 : Int32) (x4 : Int32) (x7 : Int64) (x9 : Int32) (x10 : Int32) (x11 : Int64) (x13 : Int32) (σ : St) (H : Heap) (locs : List Loc) (ls : Array Slot), k98 x2 x3 x4 x7 x9 x10 x11 x13 σ = some (r, σ2) → Wd g (wX g q) A s σ H locs → lv_has ls 16 [(0, .ref (q 25)), (1, .ref (q 34)), (2, .int x2), (3, .int x3), (4, .int x4), (7, .long x7), (9, .int x9), (10, .int x10), (11, .long x11), (13, .int x13)] → WK p l e s m av below meth c (nk + 2) g (wX g q) A (some (.long r)) σ2 H locs (F0 m 98 ls []))  {x2 : Int32} {x3 : Int32} {x4 : Int32} {x7 : Int64} {x9 : Int32} {x10 : Int32} {x11 : Int64} {x13 : Int32} {σ : St} {H : Heap} {locs : List Loc} {ls : Array Slot} (hf : f_Tree_blowsFrom_98b kB k98 x2 x3 x4 x7 x9 x10 x11 x13 σ = some (r, σ2)) (w : Wd g (wX g q) A s σ H locs) (hl : lv_has ls 16 [(0, .ref (q 25)), (1, .ref (q 34)), (2, .int x2), (3, .int x3), (4, .int x4), (7, .long x7), (9, .int x9), (10, .int x10), (11, .long x11), (13, .int x13)]) : WK p l e s m av below meth c (nk + 2) g (wX g q) A (some (.long r)) σ2 H locs (F0 m 98 ls []) := by
  obtain ⟨hx, hb, hml, hown, hts, hK, hA, hZ, hlocks, hr, hN⟩ := id C
  unfold f_Tree_blowsFrom_98b at hf
  refine lv_iload hx hb d_Tree_blowsFrom_98 (lv_at hl 9 rfl) ?_
  refine lv_aload_n hx hb d_Tree_blowsFrom_100 rfl (lv_at hl 0 rfl) ?_
  refine xg_25_turn C w k462 d_Tree_blowsFrom_101 ?_
  refine xg_26_aim C w k407 d_Tree_blowsFrom_104 ?_
  refine lv_icmp_gt (tgt := 191) hx hb d_Tree_blowsFrom_107 (by decide) (fun cd => ?_) (fun cd => ?_)
  · have hf := it_e cd hf
    refine lv_aload_n hx hb d_Tree_blowsFrom_191 rfl (lv_at hl 0 rfl) ?_
    refine xg_25_knownBlows C w k474 d_Tree_blowsFrom_192 ?_
    refine lv_iload hx hb d_Tree_blowsFrom_195 (lv_at hl 6 rfl) ?_
    refine lv_lload hx hb d_Tree_blowsFrom_197 (lv_at hl 5 rfl) ?_
    refine lv_lload hx hb d_Tree_blowsFrom_199 (lv_at hl 8 rfl) ?_
    refine lv_aload_n hx hb d_Tree_blowsFrom_201 rfl (lv_at hl 0 rfl) ?_
    refine lv_ldc2 (v := 60) hx hb hown (hts _ k919) d_Tree_blowsFrom_202 ?_
    obtain ⟨r_2, h_1, hf⟩ := bp_e hf
    refine k_callV (As := [.long 60]) (rest := [.long x11, .long x7, .int x9, .ref (q 31)]) C w (c_Tree_shareOf (q := q) h_1) cv_Tree_shareOf k868 (xr_25 C w) (by omega) hl.1 rfl (Nat.le_of_ble_eq_true rfl) d_Tree_blowsFrom_205 (fun H locs w => ?_)
    show WK p l e s m av below meth c (nk + 2) g (wX g q) A (some (.long r)) σ2 H locs (F0 m 208 ls [.long r_2, .long x11, .long x7, .int x9, .ref (q 31)])
    refine lv_lmul hx hb d_Tree_blowsFrom_208 ?_
    refine lv_ladd hx hb d_Tree_blowsFrom_209 ?_
    obtain ⟨g_3, hf⟩ := gd_e hf
    refine xs_31 C w g_3 d_Tree_blowsFrom_210 (fun σ_4 H locs eσ_4 w => ?_)
    have hf := lt_e eσ_4 hf
    refine lv_aload_n hx hb d_Tree_blowsFrom_211 rfl (lv_at hl 0 rfl) ?_
    refine xg_25_knownBlows C w k474 d_Tree_blowsFrom_212 ?_
    refine lv_iload hx hb d_Tree_blowsFrom_215 (lv_at hl 6 rfl) ?_
    obtain ⟨g_5, hf⟩ := gd_e hf
    refine xl_31 C w g_5 d_Tree_blowsFrom_217 ?_
    obtain ⟨rfl, rfl⟩ := some2_e hf
    exact k_lret C w d_Tree_blowsFrom_218
  · have hf := if_e cd hf
    refine lv_aload_n hx hb d_Tree_blowsFrom_110 rfl (lv_at hl 0 rfl) ?_
    refine xg_25_turn C w k462 d_Tree_blowsFrom_111 ?_
    refine lv_iload_n hx hb d_Tree_blowsFrom_114 rfl (lv_at hl 3 rfl) ?_
    refine lv_iload hx hb d_Tree_blowsFrom_115 (lv_at hl 9 rfl) ?_
    refine lv_iload hx hb d_Tree_blowsFrom_117 (lv_at hl 7 rfl) ?_
    obtain ⟨r_7, h_6, hf⟩ := bp_e hf
    refine k_callV (As := [.int x3, .int x13, .int x10]) (rest := []) C w (c_Turn_height_2 (q := q) h_6) cv_Turn_height k872 (xr_26 C w) (by omega) hl.1 rfl (Nat.le_of_ble_eq_true rfl) d_Tree_blowsFrom_119 (fun H locs w => ?_)
    show WK p l e s m av below meth c (nk + 2) g (wX g q) A (some (.long r)) σ2 H locs (F0 m 122 ls [.int r_7])
    refine lv_istore (lv' := [(14, .int r_7), (0, .ref (q 25)), (1, .ref (q 34)), (2, .int x2), (3, .int x3), (4, .int x4), (7, .long x7), (9, .int x9), (10, .int x10), (11, .long x11), (13, .int x13)]) hx hb d_Tree_blowsFrom_122 hl (by decide) rfl (fun ls hl => ?_)
    refine lv_iload hx hb d_Tree_blowsFrom_124 (lv_at hl 5 rfl) ?_
    refine lv_aload_n hx hb d_Tree_blowsFrom_126 rfl (lv_at hl 1 rfl) ?_
    refine xg_25_turn C w k462 d_Tree_blowsFrom_127 ?_
    refine lv_iload hx hb d_Tree_blowsFrom_130 (lv_at hl 0 rfl) ?_
    obtain ⟨r_9, h_8, hf⟩ := bp_e hf
    refine k_callV (As := [.int r_7]) (rest := [.int x4]) C w (c_Turn_isNear (q := q) h_8) cv_Turn_isNear k918 (xr_26 C w) (by omega) hl.1 rfl (Nat.le_of_ble_eq_true rfl) d_Tree_blowsFrom_132 (fun H locs w => ?_)
    show WK p l e s m av below meth c (nk + 2) g (wX g q) A (some (.long r)) σ2 H locs (F0 m 135 ls [.int r_9, .int x4])
    refine lv_if_eq (tgt := 142) hx hb d_Tree_blowsFrom_135 (by decide) (fun cd => ?_) (fun cd => ?_)
    · have hf := it_e cd hf
      refine lv_iconst (v := 0) hx hb d_Tree_blowsFrom_142 (by decide) ?_
      exact t_Tree_blowsFrom_143 C hnk hkB hk98 hf w (lv_sub hl [1, 2, 3, 4, 5, 6, 7, 8, 9, 10, 0] rfl)
    · have hf := if_e cd hf
      refine lv_iconst (v := 1) hx hb d_Tree_blowsFrom_138 (by decide) ?_
      refine lv_goto (tgt := 143) hx hb d_Tree_blowsFrom_139 (by decide) ?_
      exact t_Tree_blowsFrom_143 C hnk hkB hk98 hf w (lv_sub hl [1, 2, 3, 4, 5, 6, 7, 8, 9, 10, 0] rfl)
set_option maxHeartbeats 4000000 in
set_option maxRecDepth 20000 in
theorem t_Tree_blowsFrom_98 {r : Int64} {σ2 : St} (C : Cx g A p s m av meth c prog_9_method_10_code 16 "BellHammer$Tree" (some .long)) {nk : Nat} (hnk : 5 ≤ nk) {kB : Int32 → Int32 → Int32 → Int32 → Int32 → Int64 → St → Option (Int64 × St)} (hkB : ∀ (a1 : Int32) (a2 : Int32) (a3 : Int32) (a4 : Int32) (a5 : Int32) (a6 : Int64) (σ : St) (r : Int64) (σ2 : St), kB a1 a2 a3 a4 a5 a6 σ = some (r, σ2) → KK l y_Tree_blowsFrom prog_9_method_10_code 16 (some .long) nk g (wX g q) σ [.ref (q 25), .ref (q 34), .int a1, .int a2, .int a3, .int a4, .int a5, .long a6] (some (.long r)) (wX g q) σ2)  : ∀ (n : Nat) (x2 : Int32) (x3 : Int32) (x4 : Int32) (x7 : Int64) (x9 : Int32) (x10 : Int32) (x11 : Int64) (x13 : Int32) (σ : St) (H : Heap) (locs : List Loc) (ls : Array Slot), f_Tree_blowsFrom_98 kB  n x2 x3 x4 x7 x9 x10 x11 x13 σ = some (r, σ2) → Wd g (wX g q) A s σ H locs → lv_has ls 16 [(0, .ref (q 25)), (1, .ref (q 34)), (2, .int x2), (3, .int x3), (4, .int x4), (7, .long x7), (9, .int x9), (10, .int x10), (11, .long x11), (13, .int x13)] → WK p l e s m av below meth c (nk + 2) g (wX g q) A (some (.long r)) σ2 H locs (F0 m 98 ls []) := by
  intro n
  induction n with
  | zero => intro x2 x3 x4 x7 x9 x10 x11 x13 σ H locs ls hf; exact absurd hf (by intro z; cases z)
  | succ n ih => intro x2 x3 x4 x7 x9 x10 x11 x13 σ H locs ls hf w hl; exact t_Tree_blowsFrom_98b C hnk hkB  ih hf w hl
set_option maxHeartbeats 4000000 in
set_option maxRecDepth 20000 in
theorem t_Tree_blowsFrom_90 {r : Int64} {σ2 : St} (C : Cx g A p s m av meth c prog_9_method_10_code 16 "BellHammer$Tree" (some .long)) {nk : Nat} (hnk : 5 ≤ nk) {kB : Int32 → Int32 → Int32 → Int32 → Int32 → Int64 → St → Option (Int64 × St)} (hkB : ∀ (a1 : Int32) (a2 : Int32) (a3 : Int32) (a4 : Int32) (a5 : Int32) (a6 : Int64) (σ : St) (r : Int64) (σ2 : St), kB a1 a2 a3 a4 a5 a6 σ = some (r, σ2) → KK l y_Tree_blowsFrom prog_9_method_10_code 16 (some .long) nk g (wX g q) σ [.ref (q 25), .ref (q 34), .int a1, .int a2, .int a3, .int a4, .int a5, .long a6] (some (.long r)) (wX g q) σ2)  {x2 : Int32} {x3 : Int32} {x4 : Int32} {x7 : Int64} {x9 : Int32} {t0 : Int32} {σ : St} {H : Heap} {locs : List Loc} {ls : Array Slot} (hf : f_Tree_blowsFrom_90 kB  x2 x3 x4 x7 x9 t0 σ = some (r, σ2)) (w : Wd g (wX g q) A s σ H locs) (hl : lv_has ls 16 [(0, .ref (q 25)), (1, .ref (q 34)), (2, .int x2), (3, .int x3), (4, .int x4), (7, .long x7), (9, .int x9)]) : WK p l e s m av below meth c (nk + 2) g (wX g q) A (some (.long r)) σ2 H locs (F0 m 90 ls [.int t0]) := by
  obtain ⟨hx, hb, hml, hown, hts, hK, hA, hZ, hlocks, hr, hN⟩ := id C
  unfold f_Tree_blowsFrom_90 at hf
  refine lv_istore (lv' := [(10, .int t0), (0, .ref (q 25)), (1, .ref (q 34)), (2, .int x2), (3, .int x3), (4, .int x4), (7, .long x7), (9, .int x9)]) hx hb d_Tree_blowsFrom_90 hl (by decide) rfl (fun ls hl => ?_)
  refine lv_lconst (v := 0) hx hb d_Tree_blowsFrom_92 (by decide) ?_
  refine lv_lstore (lv' := [(11, .long 0), (10, .int t0), (0, .ref (q 25)), (1, .ref (q 34)), (2, .int x2), (3, .int x3), (4, .int x4), (7, .long x7), (9, .int x9)]) hx hb d_Tree_blowsFrom_93 hl (by decide) rfl (fun ls hl => ?_)
  refine lv_iconst (v := 0) hx hb d_Tree_blowsFrom_95 (by decide) ?_
  refine lv_istore (lv' := [(13, .int 0), (11, .long 0), (10, .int t0), (0, .ref (q 25)), (1, .ref (q 34)), (2, .int x2), (3, .int x3), (4, .int x4), (7, .long x7), (9, .int x9)]) hx hb d_Tree_blowsFrom_96 hl (by decide) rfl (fun ls hl => ?_)
  exact t_Tree_blowsFrom_98 C hnk hkB  FU x2 x3 x4 x7 x9 t0 0 0 σ _ _ _ hf w (lv_sub hl [3, 4, 5, 6, 7, 8, 9, 2, 1, 0] rfl)
set_option maxHeartbeats 4000000 in
set_option maxRecDepth 20000 in
theorem t_Tree_blowsFrom_89 {r : Int64} {σ2 : St} (C : Cx g A p s m av meth c prog_9_method_10_code 16 "BellHammer$Tree" (some .long)) {nk : Nat} (hnk : 5 ≤ nk) {kB : Int32 → Int32 → Int32 → Int32 → Int32 → Int64 → St → Option (Int64 × St)} (hkB : ∀ (a1 : Int32) (a2 : Int32) (a3 : Int32) (a4 : Int32) (a5 : Int32) (a6 : Int64) (σ : St) (r : Int64) (σ2 : St), kB a1 a2 a3 a4 a5 a6 σ = some (r, σ2) → KK l y_Tree_blowsFrom prog_9_method_10_code 16 (some .long) nk g (wX g q) σ [.ref (q 25), .ref (q 34), .int a1, .int a2, .int a3, .int a4, .int a5, .long a6] (some (.long r)) (wX g q) σ2)  {x2 : Int32} {x3 : Int32} {x4 : Int32} {x7 : Int64} {x9 : Int32} {σ : St} {H : Heap} {locs : List Loc} {ls : Array Slot} (hf : f_Tree_blowsFrom_89 kB  x2 x3 x4 x7 x9 σ = some (r, σ2)) (w : Wd g (wX g q) A s σ H locs) (hl : lv_has ls 16 [(0, .ref (q 25)), (1, .ref (q 34)), (2, .int x2), (3, .int x3), (4, .int x4), (7, .long x7), (9, .int x9)]) : WK p l e s m av below meth c (nk + 2) g (wX g q) A (some (.long r)) σ2 H locs (F0 m 89 ls []) := by
  obtain ⟨hx, hb, hml, hown, hts, hK, hA, hZ, hlocks, hr, hN⟩ := id C
  unfold f_Tree_blowsFrom_89 at hf
  refine lv_iconst (v := 0) hx hb d_Tree_blowsFrom_89 (by decide) ?_
  exact t_Tree_blowsFrom_90 C hnk hkB  hf w (lv_sub hl [0, 1, 2, 3, 4, 5, 6] rfl)
set_option maxHeartbeats 4000000 in
set_option maxRecDepth 20000 in
theorem c_Tree_blowsFromB {l : Launch} {g : GX} {q : Nat → Nat} {nk : Nat} (hnk : 5 ≤ nk) {kB : Int32 → Int32 → Int32 → Int32 → Int32 → Int64 → St → Option (Int64 × St)} (hkB : ∀ (a1 : Int32) (a2 : Int32) (a3 : Int32) (a4 : Int32) (a5 : Int32) (a6 : Int64) (σ : St) (r : Int64) (σ2 : St), kB a1 a2 a3 a4 a5 a6 σ = some (r, σ2) → KK l y_Tree_blowsFrom prog_9_method_10_code 16 (some .long) nk g (wX g q) σ [.ref (q 25), .ref (q 34), .int a1, .int a2, .int a3, .int a4, .int a5, .long a6] (some (.long r)) (wX g q) σ2) {x2 : Int32} {x3 : Int32} {x4 : Int32} {x5 : Int32} {x6 : Int32} {x7 : Int64}  {σ : St} {r : Int64} {σ2 : St} (hf : f_Tree_blowsFromB kB x2 x3 x4 x5 x6 x7 σ = some (r, σ2)) : KK l y_Tree_blowsFrom prog_9_method_10_code 16 (some .long) (nk + 2) g (wX g q) σ [.ref (q 25), .ref (q 34), .int x2, .int x3, .int x4, .int x5, .int x6, .long x7] (some (.long r)) (wX g q) σ2 := by
  refine KK_of (plainFor_of_name (by decide)) (Nat.le_of_ble_eq_true rfl) (fun p e s m below meth c A ls C w hl => ?_)
  have hl : lv_has ls 16 [(0, .ref (q 25)), (1, .ref (q 34)), (2, .int x2), (3, .int x3), (4, .int x4), (5, .int x5), (6, .int x6), (7, .long x7)] := hl
  obtain ⟨hx, hb, hml, hown, hts, hK, hA, hZ, hlocks, hr, hN⟩ := id C
  unfold f_Tree_blowsFromB at hf
  refine lv_iload_n hx hb d_Tree_blowsFrom_0 rfl (lv_at hl 3 rfl) ?_
  refine lv_iconst (v := 4) hx hb d_Tree_blowsFrom_1 (by decide) ?_
  refine lv_imul hx hb d_Tree_blowsFrom_2 ?_
  refine lv_iload hx hb d_Tree_blowsFrom_3 (lv_at hl 4 rfl) ?_
  refine lv_iadd hx hb d_Tree_blowsFrom_5 ?_
  refine lv_bipush (v := 12) hx hb d_Tree_blowsFrom_6 (by decide) ?_
  refine lv_imul hx hb d_Tree_blowsFrom_8 ?_
  refine lv_iload hx hb d_Tree_blowsFrom_9 (lv_at hl 5 rfl) ?_
  refine lv_iadd hx hb d_Tree_blowsFrom_11 ?_
  refine lv_topi (fun x_1 ex_1 => ?_)
  have hf := lt_e ex_1 hf
  refine lv_istore (lv' := [(9, .int x_1), (0, .ref (q 25)), (1, .ref (q 34)), (2, .int x2), (3, .int x3), (4, .int x4), (5, .int x5), (6, .int x6), (7, .long x7)]) hx hb d_Tree_blowsFrom_12 hl (by decide) rfl (fun ls hl => ?_)
  refine lv_iload hx hb d_Tree_blowsFrom_14 (lv_at hl 0 rfl) ?_
  refine lv_if_lt (tgt := 40) hx hb d_Tree_blowsFrom_16 (by decide) (fun cd => ?_) (fun cd => ?_)
  · have hf := it_e cd hf
    refine lv_lconst (v := 0) hx hb d_Tree_blowsFrom_40 (by decide) ?_
    obtain ⟨rfl, rfl⟩ := some2_e hf
    exact k_lret C w d_Tree_blowsFrom_41
  · have hf := if_e cd hf
    refine lv_iload hx hb d_Tree_blowsFrom_19 (lv_at hl 0 rfl) ?_
    refine lv_sipush (v := 192) hx hb d_Tree_blowsFrom_21 (by decide) ?_
    refine lv_icmp_ge (tgt := 40) hx hb d_Tree_blowsFrom_24 (by decide) (fun cd => ?_) (fun cd => ?_)
    · have hf := it_e cd hf
      refine lv_lconst (v := 0) hx hb d_Tree_blowsFrom_40 (by decide) ?_
      obtain ⟨rfl, rfl⟩ := some2_e hf
      exact k_lret C w d_Tree_blowsFrom_41
    · have hf := if_e cd hf
      refine lv_aload_n hx hb d_Tree_blowsFrom_27 rfl (lv_at hl 1 rfl) ?_
      refine xg_25_turn C w k462 d_Tree_blowsFrom_28 ?_
      refine lv_iload_n hx hb d_Tree_blowsFrom_31 rfl (lv_at hl 4 rfl) ?_
      refine lv_iload hx hb d_Tree_blowsFrom_32 (lv_at hl 7 rfl) ?_
      obtain ⟨r_3, h_2, hf⟩ := bp_e hf
      refine k_callV (As := [.int x3, .int x6]) (rest := []) C w (c_Turn_goesOn (q := q) h_2) cv_Turn_goesOn k850 (xr_26 C w) (by omega) hl.1 rfl (Nat.le_of_ble_eq_true rfl) d_Tree_blowsFrom_34 (fun H locs w => ?_)
      show WK p l e s m _ below meth c (nk + 2) g (wX g q) A (some (.long r)) σ2 H locs (F0 m 37 ls [.int r_3])
      refine lv_if_ne (tgt := 42) hx hb d_Tree_blowsFrom_37 (by decide) (fun cd => ?_) (fun cd => ?_)
      · have hf := if_e cd hf
        refine lv_aload_n hx hb d_Tree_blowsFrom_42 rfl (lv_at hl 1 rfl) ?_
        refine xg_25_knownBlows C w k474 d_Tree_blowsFrom_43 ?_
        refine lv_iload hx hb d_Tree_blowsFrom_46 (lv_at hl 0 rfl) ?_
        obtain ⟨g_4, hf⟩ := gd_e hf
        refine xl_31 C w g_4 d_Tree_blowsFrom_48 ?_
        refine lv_ldc2 (v := (-1)) hx hb hown (hts _ k905) d_Tree_blowsFrom_49 ?_
        refine W.lcmp hx hb d_Tree_blowsFrom_52 ?_
        refine lv_if_eq (tgt := 64) hx hb d_Tree_blowsFrom_53 (by decide) (fun cd => ?_) (fun cd => ?_)
        · have hf := it_e cd hf
          refine lv_iload_n hx hb d_Tree_blowsFrom_64 rfl (lv_at hl 3 rfl) ?_
          refine lv_if_eq (tgt := 89) hx hb d_Tree_blowsFrom_65 (by decide) (fun cd => ?_) (fun cd => ?_)
          · have hf := it_e cd hf
            exact t_Tree_blowsFrom_89 C hnk hkB  hf w (lv_sub hl [1, 2, 3, 4, 5, 8, 0] rfl)
          · have hf := if_e cd hf
            refine lv_aload_n hx hb d_Tree_blowsFrom_68 rfl (lv_at hl 1 rfl) ?_
            refine lv_aload_n hx hb d_Tree_blowsFrom_69 rfl (lv_at hl 2 rfl) ?_
            refine lv_iload hx hb d_Tree_blowsFrom_70 (lv_at hl 0 rfl) ?_
            refine lv_iload_n hx hb d_Tree_blowsFrom_72 rfl (lv_at hl 4 rfl) ?_
            refine lv_iload hx hb d_Tree_blowsFrom_73 (lv_at hl 5 rfl) ?_
            refine lv_iload hx hb d_Tree_blowsFrom_75 (lv_at hl 7 rfl) ?_
            obtain ⟨r_6, σ_7, h_5, hf⟩ := bd_e hf
            refine k_callV (As := [.ref (q 34), .int x_1, .int x3, .int x4, .int x6]) (rest := []) C w (c_Tree_rulesAt (q := q) h_5) cv_Tree_rulesAt k910 (xr_25 C w) (by omega) hl.1 rfl (Nat.le_of_ble_eq_true rfl) d_Tree_blowsFrom_77 (fun H locs w => ?_)
            show WK p l e s m _ below meth c (nk + 2) g (wX g q) A (some (.long r)) σ2 H locs (F0 m 80 ls [.int r_6])
            refine lv_iload_n hx hb d_Tree_blowsFrom_80 rfl (lv_at hl 3 rfl) ?_
            refine lv_iand hx hb d_Tree_blowsFrom_81 ?_
            refine lv_if_eq (tgt := 89) hx hb d_Tree_blowsFrom_82 (by decide) (fun cd => ?_) (fun cd => ?_)
            · have hf := it_e cd hf
              exact t_Tree_blowsFrom_89 C hnk hkB  hf w (lv_sub hl [1, 2, 3, 4, 5, 8, 0] rfl)
            · have hf := if_e cd hf
              refine lv_iconst (v := 1) hx hb d_Tree_blowsFrom_85 (by decide) ?_
              refine lv_goto (tgt := 90) hx hb d_Tree_blowsFrom_86 (by decide) ?_
              exact t_Tree_blowsFrom_90 C hnk hkB  hf w (lv_sub hl [1, 2, 3, 4, 5, 8, 0] rfl)
        · have hf := if_e cd hf
          refine lv_aload_n hx hb d_Tree_blowsFrom_56 rfl (lv_at hl 1 rfl) ?_
          refine xg_25_knownBlows C w k474 d_Tree_blowsFrom_57 ?_
          refine lv_iload hx hb d_Tree_blowsFrom_60 (lv_at hl 0 rfl) ?_
          obtain ⟨g_8, hf⟩ := gd_e hf
          refine xl_31 C w g_8 d_Tree_blowsFrom_62 ?_
          obtain ⟨rfl, rfl⟩ := some2_e hf
          exact k_lret C w d_Tree_blowsFrom_63
      · have hf := it_e cd hf
        refine lv_lconst (v := 0) hx hb d_Tree_blowsFrom_40 (by decide) ?_
        obtain ⟨rfl, rfl⟩ := some2_e hf
        exact k_lret C w d_Tree_blowsFrom_41
set_option maxHeartbeats 4000000 in
set_option maxRecDepth 20000 in
theorem c_Tree_blowsFrom {l : Launch} {g : GX} {q : Nat → Nat} : ∀ (d : Nat) (x2 : Int32) (x3 : Int32) (x4 : Int32) (x5 : Int32) (x6 : Int32) (x7 : Int64) (σ : St) (r : Int64) (σ2 : St), f_Tree_blowsFrom d x2 x3 x4 x5 x6 x7 σ = some (r, σ2) → KK l y_Tree_blowsFrom prog_9_method_10_code 16 (some .long) (5 + 2 * d) g (wX g q) σ [.ref (q 25), .ref (q 34), .int x2, .int x3, .int x4, .int x5, .int x6, .long x7] (some (.long r)) (wX g q) σ2 := by
  intro d
  induction d with
  | zero => intro x2 x3 x4 x5 x6 x7 σ r σ2 hf; exact absurd hf (by intro z; cases z)
  | succ d ih =>
    intro x2 x3 x4 x5 x6 x7 σ r σ2 hf
    have := c_Tree_blowsFromB (l := l) (g := g) (q := q) (nk := 5 + 2 * d) (by omega) ih hf
    rw [show 5 + 2 * (d + 1) = 5 + 2 * d + 2 from by omega]
    exact this
def f_Tree_weighRules_124b (k124 : Int32 → Int32 → St → Option (St)) (x3 : Int32) (x4 : Int32) (σ : St) : Option (St) :=
  if x3 ≤ x4 then
    some σ
  else
    gd (inB x4 64) <|
    if (lg_cmp (sB σ 1 x4.toNatClampNeg) (sJ σ 4)) ≤ 0 then
      lt ((x4 + 1)) fun x_2 =>
      k124 x3 x_2 σ
    else
      lt (uI σ 39 x4) fun σ_3 =>
      gd (inB x4 64) <|
      lt (uJ σ_3 4 (sB σ_3 1 x4.toNatClampNeg)) fun σ_5 =>
      lt ((x4 + 1)) fun x_6 =>
      k124 x3 x_6 σ_5
def f_Tree_weighRules_124 : Nat → Int32 → Int32 → St → Option (St)
  | 0 => fun _ _ _ => none
  | n + 1 => f_Tree_weighRules_124b   (f_Tree_weighRules_124   n)
def f_Tree_weighRules_54b (k23 : Int32 → Int32 → St → Option (St)) (k54 : Int32 → Int32 → Int32 → St → Option (St)) (x3 : Int32) (x4 : Int32) (x5 : Int32) (σ : St) : Option (St) :=
  if x3 ≤ x5 then
    lt ((x4 + 1)) fun x_1 =>
    k23 x3 x_1 σ
  else
    bp (f_Arrays_fill_J_2 (-1) σ) fun σ_3 =>
    gd (inB x5 64) <|
    bd (f_Tree_blowsFrom 6 x5 0 0 0 0 12960000 σ_3) fun r_6 σ_7 =>
    gd (inB x5 64) <|
    lt (uB σ_7 1 (vp_updL (sB σ_7 1) x5.toNatClampNeg ((sB σ_3 1 x5.toNatClampNeg) + r_6))) fun σ_9 =>
    lt ((x5 + 1)) fun x_10 =>
    k54 x3 x4 x_10 σ_9
def f_Tree_weighRules_54 (k23 : Int32 → Int32 → St → Option (St)) : Nat → Int32 → Int32 → Int32 → St → Option (St)
  | 0 => fun _ _ _ _ => none
  | n + 1 => f_Tree_weighRules_54b  k23 (f_Tree_weighRules_54  k23 n)
def f_Tree_weighRules_23b (k23 : Int32 → Int32 → St → Option (St)) (x3 : Int32) (x4 : Int32) (σ : St) : Option (St) :=
  if (sI σ 54) ≤ x4 then
    lt (uI σ 39 0) fun σ_1 =>
    lt (uJ σ_1 4 (sB σ_1 1 (0 : Int32).toNatClampNeg)) fun σ_2 =>
    f_Tree_weighRules_124 FU x3 1 σ_2
  else
    bp (f_Turn_load_2 x4 σ) fun σ_4 =>
    bp (f_Arrays_fill_I (-1) σ_4) fun σ_6 =>
    f_Tree_weighRules_54 k23 FU x3 x4 0 σ_6
def f_Tree_weighRules_23 : Nat → Int32 → Int32 → St → Option (St)
  | 0 => fun _ _ _ => none
  | n + 1 => f_Tree_weighRules_23b   (f_Tree_weighRules_23   n)
def f_Tree_weighRules (σ : St) : Option (St) :=
  lt ((1 <<< ((iMin (sI σ 55) 6) &&& 31))) fun x_1 =>
  bp (f_Arrays_fill_J 0 σ) fun σ_3 =>
  f_Tree_weighRules_23 FU x_1 0 σ_3
set_option maxHeartbeats 4000000 in
set_option maxRecDepth 20000 in
theorem t_Tree_weighRules_124b {σ2 : St} (C : Cx g A p s m av meth c prog_9_method_8_code 6 "BellHammer$Tree" none) {k124 : Int32 → Int32 → St → Option (St)} (hk124 : ∀ (x3 : Int32) (x4 : Int32) (σ : St) (H : Heap) (locs : List Loc) (ls : Array Slot), k124 x3 x4 σ = some σ2 → Wd g (wX g q) A s σ H locs → lv_has ls 6 [(0, .ref (q 25)), (3, .int x3), (4, .int x4)] → WK p l e s m av below meth c 18 g (wX g q) A none σ2 H locs (F0 m 124 ls []))  {x3 : Int32} {x4 : Int32} {σ : St} {H : Heap} {locs : List Loc} {ls : Array Slot} (hf : f_Tree_weighRules_124b  k124 x3 x4 σ = some σ2) (w : Wd g (wX g q) A s σ H locs) (hl : lv_has ls 6 [(0, .ref (q 25)), (3, .int x3), (4, .int x4)]) : WK p l e s m av below meth c 18 g (wX g q) A none σ2 H locs (F0 m 124 ls []) := by
  obtain ⟨hx, hb, hml, hown, hts, hK, hA, hZ, hlocks, hr, hN⟩ := id C
  unfold f_Tree_weighRules_124b at hf
  refine lv_iload hx hb d_Tree_weighRules_124 (lv_at hl 2 rfl) ?_
  refine lv_iload_n hx hb d_Tree_weighRules_126 rfl (lv_at hl 1 rfl) ?_
  refine lv_icmp_ge (tgt := 168) hx hb d_Tree_weighRules_127 (by decide) (fun cd => ?_) (fun cd => ?_)
  · have hf := it_e cd hf
    cases some_e hf
    exact k_vret C w d_Tree_weighRules_168
  · have hf := if_e cd hf
    refine lv_aload_n hx hb d_Tree_weighRules_130 rfl (lv_at hl 0 rfl) ?_
    refine xg_25_blowsByRules C w k476 d_Tree_weighRules_131 ?_
    refine lv_iload hx hb d_Tree_weighRules_134 (lv_at hl 2 rfl) ?_
    obtain ⟨g_1, hf⟩ := gd_e hf
    refine xl_33 C w g_1 d_Tree_weighRules_136 ?_
    refine lv_aload_n hx hb d_Tree_weighRules_137 rfl (lv_at hl 0 rfl) ?_
    refine xg_25_winnerBlows C w k473 d_Tree_weighRules_138 ?_
    refine W.lcmp hx hb d_Tree_weighRules_141 ?_
    refine lv_if_le (tgt := 162) hx hb d_Tree_weighRules_142 (by decide) (fun cd => ?_) (fun cd => ?_)
    · have hf := it_e cd hf
      obtain ⟨x_2, ex_2⟩ : ∃ y : Int32, y = (x4 + 1) := ⟨_, rfl⟩
      have hf := lt_e ex_2 hf
      refine lv_iinc (v := x_2) (lv' := [(4, .int x_2), (0, .ref (q 25)), (3, .int x3)]) hx hb d_Tree_weighRules_162 hl (k := 2) rfl (by rw [ex_2]; rfl) (by decide) rfl (fun ls hl => ?_)
      refine lv_goto (tgt := 124) hx hb d_Tree_weighRules_165 (by decide) ?_
      exact hk124 x3 x_2 σ _ _ _ hf w (lv_sub hl [1, 2, 0] rfl)
    · have hf := if_e cd hf
      refine lv_aload_n hx hb d_Tree_weighRules_145 rfl (lv_at hl 0 rfl) ?_
      refine lv_iload hx hb d_Tree_weighRules_146 (lv_at hl 2 rfl) ?_
      refine xp_25_winner C w k471 d_Tree_weighRules_148 (fun σ_3 H locs eσ_3 w => ?_)
      have hf := lt_e eσ_3 hf
      refine lv_aload_n hx hb d_Tree_weighRules_151 rfl (lv_at hl 0 rfl) ?_
      refine lv_aload_n hx hb d_Tree_weighRules_152 rfl (lv_at hl 0 rfl) ?_
      refine xg_25_blowsByRules C w k476 d_Tree_weighRules_153 ?_
      refine lv_iload hx hb d_Tree_weighRules_156 (lv_at hl 2 rfl) ?_
      obtain ⟨g_4, hf⟩ := gd_e hf
      refine xl_33 C w g_4 d_Tree_weighRules_158 ?_
      refine xp_25_winnerBlows C w k473 d_Tree_weighRules_159 (fun σ_5 H locs eσ_5 w => ?_)
      have hf := lt_e eσ_5 hf
      obtain ⟨x_6, ex_6⟩ : ∃ y : Int32, y = (x4 + 1) := ⟨_, rfl⟩
      have hf := lt_e ex_6 hf
      refine lv_iinc (v := x_6) (lv' := [(4, .int x_6), (0, .ref (q 25)), (3, .int x3)]) hx hb d_Tree_weighRules_162 hl (k := 2) rfl (by rw [ex_6]; rfl) (by decide) rfl (fun ls hl => ?_)
      refine lv_goto (tgt := 124) hx hb d_Tree_weighRules_165 (by decide) ?_
      exact hk124 x3 x_6 σ_5 _ _ _ hf w (lv_sub hl [1, 2, 0] rfl)
set_option maxHeartbeats 4000000 in
set_option maxRecDepth 20000 in
theorem t_Tree_weighRules_124 {σ2 : St} (C : Cx g A p s m av meth c prog_9_method_8_code 6 "BellHammer$Tree" none)  : ∀ (n : Nat) (x3 : Int32) (x4 : Int32) (σ : St) (H : Heap) (locs : List Loc) (ls : Array Slot), f_Tree_weighRules_124   n x3 x4 σ = some σ2 → Wd g (wX g q) A s σ H locs → lv_has ls 6 [(0, .ref (q 25)), (3, .int x3), (4, .int x4)] → WK p l e s m av below meth c 18 g (wX g q) A none σ2 H locs (F0 m 124 ls []) := by
  intro n
  induction n with
  | zero => intro x3 x4 σ H locs ls hf; exact absurd hf (by intro z; cases z)
  | succ n ih => intro x3 x4 σ H locs ls hf w hl; exact t_Tree_weighRules_124b C  ih hf w hl
set_option maxHeartbeats 4000000 in
set_option maxRecDepth 20000 in
theorem t_Tree_weighRules_54b {σ2 : St} (C : Cx g A p s m av meth c prog_9_method_8_code 6 "BellHammer$Tree" none) {k23 : Int32 → Int32 → St → Option (St)} (hk23 : ∀ (x3 : Int32) (x4 : Int32) (σ : St) (H : Heap) (locs : List Loc) (ls : Array Slot), k23 x3 x4 σ = some σ2 → Wd g (wX g q) A s σ H locs → lv_has ls 6 [(0, .ref (q 25)), (1, .ref (q 34)), (2, .ref (q 15)), (3, .int x3), (4, .int x4)] → WK p l e s m av below meth c 18 g (wX g q) A none σ2 H locs (F0 m 23 ls [])) {k54 : Int32 → Int32 → Int32 → St → Option (St)} (hk54 : ∀ (x3 : Int32) (x4 : Int32) (x5 : Int32) (σ : St) (H : Heap) (locs : List Loc) (ls : Array Slot), k54 x3 x4 x5 σ = some σ2 → Wd g (wX g q) A s σ H locs → lv_has ls 6 [(0, .ref (q 25)), (1, .ref (q 34)), (2, .ref (q 15)), (3, .int x3), (4, .int x4), (5, .int x5)] → WK p l e s m av below meth c 18 g (wX g q) A none σ2 H locs (F0 m 54 ls []))  {x3 : Int32} {x4 : Int32} {x5 : Int32} {σ : St} {H : Heap} {locs : List Loc} {ls : Array Slot} (hf : f_Tree_weighRules_54b  k23 k54 x3 x4 x5 σ = some σ2) (w : Wd g (wX g q) A s σ H locs) (hl : lv_has ls 6 [(0, .ref (q 25)), (1, .ref (q 34)), (2, .ref (q 15)), (3, .int x3), (4, .int x4), (5, .int x5)]) : WK p l e s m av below meth c 18 g (wX g q) A none σ2 H locs (F0 m 54 ls []) := by
  obtain ⟨hx, hb, hml, hown, hts, hK, hA, hZ, hlocks, hr, hN⟩ := id C
  unfold f_Tree_weighRules_54b at hf
  refine lv_iload hx hb d_Tree_weighRules_54 (lv_at hl 5 rfl) ?_
  refine lv_iload_n hx hb d_Tree_weighRules_56 rfl (lv_at hl 3 rfl) ?_
  refine lv_icmp_ge (tgt := 100) hx hb d_Tree_weighRules_57 (by decide) (fun cd => ?_) (fun cd => ?_)
  · have hf := it_e cd hf
    obtain ⟨x_1, ex_1⟩ : ∃ y : Int32, y = (x4 + 1) := ⟨_, rfl⟩
    have hf := lt_e ex_1 hf
    refine lv_iinc (v := x_1) (lv' := [(4, .int x_1), (0, .ref (q 25)), (1, .ref (q 34)), (2, .ref (q 15)), (3, .int x3), (5, .int x5)]) hx hb d_Tree_weighRules_100 hl (k := 4) rfl (by rw [ex_1]; rfl) (by decide) rfl (fun ls hl => ?_)
    refine lv_goto (tgt := 23) hx hb d_Tree_weighRules_103 (by decide) ?_
    exact hk23 x3 x_1 σ _ _ _ hf w (lv_sub hl [1, 2, 3, 4, 0] rfl)
  · have hf := if_e cd hf
    refine lv_aload_n hx hb d_Tree_weighRules_60 rfl (lv_at hl 0 rfl) ?_
    refine xg_25_knownBlows C w k474 d_Tree_weighRules_61 ?_
    refine lv_ldc2 (v := (-1)) hx hb hown (hts _ k905) d_Tree_weighRules_64 ?_
    obtain ⟨σ_3, h_2, hf⟩ := bp_e hf
    refine k_callS (As := [.ref (q 31), .long (-1)]) (rest := []) C w (c_Arrays_fill_J_2 (q := q) h_2) cv_Arrays_fill_J k898 (by decide) hl.1 rfl (Nat.le_of_ble_eq_true rfl) d_Tree_weighRules_67 (fun H locs w => ?_)
    show WK p l e s m av below meth c 18 g (wX g q) A none σ2 H locs (F0 m 70 ls [])
    refine lv_aload_n hx hb d_Tree_weighRules_70 rfl (lv_at hl 0 rfl) ?_
    refine xg_25_blowsByRules C w k476 d_Tree_weighRules_71 ?_
    refine lv_iload hx hb d_Tree_weighRules_74 (lv_at hl 5 rfl) ?_
    refine lv_dup2_11 hx hb d_Tree_weighRules_76 rfl rfl ?_
    obtain ⟨g_4, hf⟩ := gd_e hf
    refine xl_33 C w g_4 d_Tree_weighRules_77 ?_
    refine lv_aload_n hx hb d_Tree_weighRules_78 rfl (lv_at hl 0 rfl) ?_
    refine lv_aload_n hx hb d_Tree_weighRules_79 rfl (lv_at hl 1 rfl) ?_
    refine lv_iload hx hb d_Tree_weighRules_80 (lv_at hl 5 rfl) ?_
    refine lv_iconst (v := 0) hx hb d_Tree_weighRules_82 (by decide) ?_
    refine lv_iconst (v := 0) hx hb d_Tree_weighRules_83 (by decide) ?_
    refine lv_iconst (v := 0) hx hb d_Tree_weighRules_84 (by decide) ?_
    refine lv_iconst (v := 0) hx hb d_Tree_weighRules_85 (by decide) ?_
    refine lv_ldc2 (v := 12960000) hx hb hown (hts _ k845) d_Tree_weighRules_86 ?_
    obtain ⟨r_6, σ_7, h_5, hf⟩ := bd_e hf
    refine k_callV (As := [.ref (q 34), .int x5, .int 0, .int 0, .int 0, .int 0, .long 12960000]) (rest := [.long (sB σ_3 1 x5.toNatClampNeg), .int x5, .ref (q 33)]) C w (c_Tree_blowsFrom (q := q) 6 _ _ _ _ _ _ _ _ _ h_5) cv_Tree_blowsFrom k906 (xr_25 C w) (by decide) hl.1 rfl (Nat.le_of_ble_eq_true rfl) d_Tree_weighRules_89 (fun H locs w => ?_)
    show WK p l e s m av below meth c 18 g (wX g q) A none σ2 H locs (F0 m 92 ls [.long r_6, .long (sB σ_3 1 x5.toNatClampNeg), .int x5, .ref (q 33)])
    refine lv_ladd hx hb d_Tree_weighRules_92 ?_
    obtain ⟨g_8, hf⟩ := gd_e hf
    refine xs_33 C w g_8 d_Tree_weighRules_93 (fun σ_9 H locs eσ_9 w => ?_)
    have hf := lt_e eσ_9 hf
    obtain ⟨x_10, ex_10⟩ : ∃ y : Int32, y = (x5 + 1) := ⟨_, rfl⟩
    have hf := lt_e ex_10 hf
    refine lv_iinc (v := x_10) (lv' := [(5, .int x_10), (0, .ref (q 25)), (1, .ref (q 34)), (2, .ref (q 15)), (3, .int x3), (4, .int x4)]) hx hb d_Tree_weighRules_94 hl (k := 5) rfl (by rw [ex_10]; rfl) (by decide) rfl (fun ls hl => ?_)
    refine lv_goto (tgt := 54) hx hb d_Tree_weighRules_97 (by decide) ?_
    exact hk54 x3 x4 x_10 σ_9 _ _ _ hf w (lv_sub hl [1, 2, 3, 4, 5, 0] rfl)
set_option maxHeartbeats 4000000 in
set_option maxRecDepth 20000 in
theorem t_Tree_weighRules_54 {σ2 : St} (C : Cx g A p s m av meth c prog_9_method_8_code 6 "BellHammer$Tree" none) {k23 : Int32 → Int32 → St → Option (St)} (hk23 : ∀ (x3 : Int32) (x4 : Int32) (σ : St) (H : Heap) (locs : List Loc) (ls : Array Slot), k23 x3 x4 σ = some σ2 → Wd g (wX g q) A s σ H locs → lv_has ls 6 [(0, .ref (q 25)), (1, .ref (q 34)), (2, .ref (q 15)), (3, .int x3), (4, .int x4)] → WK p l e s m av below meth c 18 g (wX g q) A none σ2 H locs (F0 m 23 ls []))  : ∀ (n : Nat) (x3 : Int32) (x4 : Int32) (x5 : Int32) (σ : St) (H : Heap) (locs : List Loc) (ls : Array Slot), f_Tree_weighRules_54  k23 n x3 x4 x5 σ = some σ2 → Wd g (wX g q) A s σ H locs → lv_has ls 6 [(0, .ref (q 25)), (1, .ref (q 34)), (2, .ref (q 15)), (3, .int x3), (4, .int x4), (5, .int x5)] → WK p l e s m av below meth c 18 g (wX g q) A none σ2 H locs (F0 m 54 ls []) := by
  intro n
  induction n with
  | zero => intro x3 x4 x5 σ H locs ls hf; exact absurd hf (by intro z; cases z)
  | succ n ih => intro x3 x4 x5 σ H locs ls hf w hl; exact t_Tree_weighRules_54b C hk23 ih hf w hl
set_option maxHeartbeats 4000000 in
set_option maxRecDepth 20000 in
theorem t_Tree_weighRules_23b {σ2 : St} (C : Cx g A p s m av meth c prog_9_method_8_code 6 "BellHammer$Tree" none) {k23 : Int32 → Int32 → St → Option (St)} (hk23 : ∀ (x3 : Int32) (x4 : Int32) (σ : St) (H : Heap) (locs : List Loc) (ls : Array Slot), k23 x3 x4 σ = some σ2 → Wd g (wX g q) A s σ H locs → lv_has ls 6 [(0, .ref (q 25)), (1, .ref (q 34)), (2, .ref (q 15)), (3, .int x3), (4, .int x4)] → WK p l e s m av below meth c 18 g (wX g q) A none σ2 H locs (F0 m 23 ls []))  {x3 : Int32} {x4 : Int32} {σ : St} {H : Heap} {locs : List Loc} {ls : Array Slot} (hf : f_Tree_weighRules_23b  k23 x3 x4 σ = some σ2) (w : Wd g (wX g q) A s σ H locs) (hl : lv_has ls 6 [(0, .ref (q 25)), (1, .ref (q 34)), (2, .ref (q 15)), (3, .int x3), (4, .int x4)]) : WK p l e s m av below meth c 18 g (wX g q) A none σ2 H locs (F0 m 23 ls []) := by
  obtain ⟨hx, hb, hml, hown, hts, hK, hA, hZ, hlocks, hr, hN⟩ := id C
  unfold f_Tree_weighRules_23b at hf
  refine lv_iload hx hb d_Tree_weighRules_23 (lv_at hl 4 rfl) ?_
  refine lv_aload_n hx hb d_Tree_weighRules_25 rfl (lv_at hl 1 rfl) ?_
  refine xg_34_triers C w k277 d_Tree_weighRules_26 ?_
  refine lv_icmp_ge (tgt := 106) hx hb d_Tree_weighRules_29 (by decide) (fun cd => ?_) (fun cd => ?_)
  · have hf := it_e cd hf
    refine lv_aload_n hx hb d_Tree_weighRules_106 rfl (lv_at hl 0 rfl) ?_
    refine lv_iconst (v := 0) hx hb d_Tree_weighRules_107 (by decide) ?_
    refine xp_25_winner C w k471 d_Tree_weighRules_108 (fun σ_1 H locs eσ_1 w => ?_)
    have hf := lt_e eσ_1 hf
    refine lv_aload_n hx hb d_Tree_weighRules_111 rfl (lv_at hl 0 rfl) ?_
    refine lv_aload_n hx hb d_Tree_weighRules_112 rfl (lv_at hl 0 rfl) ?_
    refine xg_25_blowsByRules C w k476 d_Tree_weighRules_113 ?_
    refine lv_iconst (v := 0) hx hb d_Tree_weighRules_116 (by decide) ?_
    refine xl_33 C w (by decide) d_Tree_weighRules_117 ?_
    refine xp_25_winnerBlows C w k473 d_Tree_weighRules_118 (fun σ_2 H locs eσ_2 w => ?_)
    have hf := lt_e eσ_2 hf
    refine lv_iconst (v := 1) hx hb d_Tree_weighRules_121 (by decide) ?_
    refine lv_istore (lv' := [(4, .int 1), (0, .ref (q 25)), (1, .ref (q 34)), (2, .ref (q 15)), (3, .int x3)]) hx hb d_Tree_weighRules_122 hl (by decide) rfl (fun ls hl => ?_)
    exact t_Tree_weighRules_124 C  FU x3 1 σ_2 _ _ _ hf w (lv_sub hl [1, 4, 0] rfl)
  · have hf := if_e cd hf
    refine lv_aload_n hx hb d_Tree_weighRules_32 rfl (lv_at hl 0 rfl) ?_
    refine xg_25_turn C w k462 d_Tree_weighRules_33 ?_
    refine lv_aload_n hx hb d_Tree_weighRules_36 rfl (lv_at hl 1 rfl) ?_
    refine lv_iload hx hb d_Tree_weighRules_37 (lv_at hl 4 rfl) ?_
    refine lv_aload_n hx hb d_Tree_weighRules_39 rfl (lv_at hl 2 rfl) ?_
    obtain ⟨σ_4, h_3, hf⟩ := bp_e hf
    refine k_callV (As := [.ref (q 34), .int x4, .ref (q 15)]) (rest := []) C w (c_Turn_load_2 (q := q) h_3) cv_Turn_load k901 (xr_26 C w) (by decide) hl.1 rfl (Nat.le_of_ble_eq_true rfl) d_Tree_weighRules_40 (fun H locs w => ?_)
    show WK p l e s m av below meth c 18 g (wX g q) A none σ2 H locs (F0 m 43 ls [])
    refine lv_aload_n hx hb d_Tree_weighRules_43 rfl (lv_at hl 0 rfl) ?_
    refine xg_25_knownRules C w k475 d_Tree_weighRules_44 ?_
    refine lv_iconst (v := (-1)) hx hb d_Tree_weighRules_47 (by decide) ?_
    obtain ⟨σ_6, h_5, hf⟩ := bp_e hf
    refine k_callS (As := [.ref (q 32), .int (-1)]) (rest := []) C w (c_Arrays_fill_I (q := q) h_5) cv_Arrays_fill_I k902 (by decide) hl.1 rfl (Nat.le_of_ble_eq_true rfl) d_Tree_weighRules_48 (fun H locs w => ?_)
    show WK p l e s m av below meth c 18 g (wX g q) A none σ2 H locs (F0 m 51 ls [])
    refine lv_iconst (v := 0) hx hb d_Tree_weighRules_51 (by decide) ?_
    refine lv_istore (lv' := [(5, .int 0), (0, .ref (q 25)), (1, .ref (q 34)), (2, .ref (q 15)), (3, .int x3), (4, .int x4)]) hx hb d_Tree_weighRules_52 hl (by decide) rfl (fun ls hl => ?_)
    exact t_Tree_weighRules_54 C hk23 FU x3 x4 0 σ_6 _ _ _ hf w (lv_sub hl [1, 2, 3, 4, 5, 0] rfl)
set_option maxHeartbeats 4000000 in
set_option maxRecDepth 20000 in
theorem t_Tree_weighRules_23 {σ2 : St} (C : Cx g A p s m av meth c prog_9_method_8_code 6 "BellHammer$Tree" none)  : ∀ (n : Nat) (x3 : Int32) (x4 : Int32) (σ : St) (H : Heap) (locs : List Loc) (ls : Array Slot), f_Tree_weighRules_23   n x3 x4 σ = some σ2 → Wd g (wX g q) A s σ H locs → lv_has ls 6 [(0, .ref (q 25)), (1, .ref (q 34)), (2, .ref (q 15)), (3, .int x3), (4, .int x4)] → WK p l e s m av below meth c 18 g (wX g q) A none σ2 H locs (F0 m 23 ls []) := by
  intro n
  induction n with
  | zero => intro x3 x4 σ H locs ls hf; exact absurd hf (by intro z; cases z)
  | succ n ih => intro x3 x4 σ H locs ls hf w hl; exact t_Tree_weighRules_23b C  ih hf w hl
set_option maxHeartbeats 4000000 in
set_option maxRecDepth 20000 in
theorem c_Tree_weighRules {l : Launch} {g : GX} {q : Nat → Nat}  {σ : St} {σ2 : St} (hf : f_Tree_weighRules   σ = some σ2) : KK l y_Tree_weighRules prog_9_method_8_code 6 none 18 g (wX g q) σ [.ref (q 25), .ref (q 34), .ref (q 15)] none (wX g q) σ2 := by
  refine KK_of (plainFor_of_name (by decide)) (Nat.le_of_ble_eq_true rfl) (fun p e s m below meth c A ls C w hl => ?_)
  have hl : lv_has ls 6 [(0, .ref (q 25)), (1, .ref (q 34)), (2, .ref (q 15))] := hl
  obtain ⟨hx, hb, hml, hown, hts, hK, hA, hZ, hlocks, hr, hN⟩ := id C
  unfold f_Tree_weighRules at hf
  refine lv_iconst (v := 1) hx hb d_Tree_weighRules_0 (by decide) ?_
  refine lv_aload_n hx hb d_Tree_weighRules_1 rfl (lv_at hl 1 rfl) ?_
  refine xg_34_rules C w k283 d_Tree_weighRules_2 ?_
  refine lv_bipush (v := 6) hx hb d_Tree_weighRules_5 (by decide) ?_
  refine r_min C hl.1 (by omega) (Nat.le_of_ble_eq_true rfl) k862 d_Tree_weighRules_7 ?_
  refine lv_ishl hx hb d_Tree_weighRules_10 ?_
  refine lv_topi (fun x_1 ex_1 => ?_)
  have hf := lt_e ex_1 hf
  refine lv_istore_n (lv' := [(3, .int x_1), (0, .ref (q 25)), (1, .ref (q 34)), (2, .ref (q 15))]) hx hb d_Tree_weighRules_11 rfl hl (by decide) rfl (fun ls hl => ?_)
  refine lv_aload_n hx hb d_Tree_weighRules_12 rfl (lv_at hl 1 rfl) ?_
  refine xg_25_blowsByRules C w k476 d_Tree_weighRules_13 ?_
  refine lv_lconst (v := 0) hx hb d_Tree_weighRules_16 (by decide) ?_
  obtain ⟨σ_3, h_2, hf⟩ := bp_e hf
  refine k_callS (As := [.ref (q 33), .long 0]) (rest := []) C w (c_Arrays_fill_J (q := q) h_2) cv_Arrays_fill_J k898 (by decide) hl.1 rfl (Nat.le_of_ble_eq_true rfl) d_Tree_weighRules_17 (fun H locs w => ?_)
  show WK p l e s m _ below meth c 18 g (wX g q) A none σ2 H locs (F0 m 20 ls [])
  refine lv_iconst (v := 0) hx hb d_Tree_weighRules_20 (by decide) ?_
  refine lv_istore (lv' := [(4, .int 0), (3, .int x_1), (0, .ref (q 25)), (1, .ref (q 34)), (2, .ref (q 15))]) hx hb d_Tree_weighRules_21 hl (by decide) rfl (fun ls hl => ?_)
  exact t_Tree_weighRules_23 C  FU x_1 0 σ_3 _ _ _ hf w (lv_sub hl [2, 3, 4, 1, 0] rfl)
def f_Tree_winnerLeaves (x1 : Int32) (σ : St) : Option (Int32) :=
  bp (f_Tree_thousandths ((sJ σ 4) * (x1).toInt64) σ) fun r_2 =>
  some r_2
set_option maxHeartbeats 4000000 in
set_option maxRecDepth 20000 in
theorem c_Tree_winnerLeaves {l : Launch} {g : GX} {q : Nat → Nat} {x1 : Int32}  {σ : St} {r : Int32} (hf : f_Tree_winnerLeaves  x1 σ = some r) : KK l y_Tree_winnerLeaves prog_9_method_4_code 2 (some .int) 1 g (wX g q) σ [.ref (q 25), .int x1] (some (.int r)) (wX g q) σ := by
  refine KK_of (plainFor_of_name (by decide)) (Nat.le_of_ble_eq_true rfl) (fun p e s m below meth c A ls C w hl => ?_)
  have hl : lv_has ls 2 [(0, .ref (q 25)), (1, .int x1)] := hl
  obtain ⟨hx, hb, hml, hown, hts, hK, hA, hZ, hlocks, hr, hN⟩ := id C
  unfold f_Tree_winnerLeaves at hf
  refine lv_aload_n hx hb d_Tree_winnerLeaves_0 rfl (lv_at hl 0 rfl) ?_
  refine xg_25_winnerBlows C w k473 d_Tree_winnerLeaves_1 ?_
  refine lv_iload_n hx hb d_Tree_winnerLeaves_4 rfl (lv_at hl 1 rfl) ?_
  refine lv_i2l hx hb d_Tree_winnerLeaves_5 rfl ?_
  refine lv_lmul hx hb d_Tree_winnerLeaves_6 ?_
  obtain ⟨r_2, h_1, hf⟩ := bp_e hf
  refine k_callS (As := [.long ((sJ σ 4) * (x1).toInt64)]) (rest := []) C w (c_Tree_thousandths (q := q) h_1) cv_Tree_thousandths k886 (by decide) hl.1 rfl (Nat.le_of_ble_eq_true rfl) d_Tree_winnerLeaves_7 (fun H locs w => ?_)
  show WK p l e s m _ below meth c 1 g (wX g q) A (some (.int r)) σ H locs (F0 m 10 ls [.int r_2])
  cases some_e hf
  exact k_iret C w d_Tree_winnerLeaves_10
def f_BH_best_11 (x1 : Int32) (σ : St) : Option (Int32 × St) :=
  bp (f_Tree_weighRules σ) fun σ_2 =>
  if x1 = 0 then
    some ((sI σ_2 39), σ_2)
  else
    bp (f_Tree_winnerLeaves (sA σ_2 9 (2 : Int32).toNatClampNeg) σ_2) fun r_4 =>
    some (r_4, σ_2)
def f_BH_best (x1 : Int32) (σ : St) : Option (Int32 × St) :=
  if x1 = 0 then
    f_BH_best_11 x1 σ
  else
    if x1 = 1 then
      f_BH_best_11 x1 σ
    else
      some ((-1), σ)
set_option maxHeartbeats 4000000 in
set_option maxRecDepth 20000 in
theorem t_BH_best_11 {r : Int32} {σ2 : St} (C : Cx g A p s m av meth c prog_1_method_16_code 2 "BellHammer" (some .int))  {x1 : Int32} {σ : St} {H : Heap} {locs : List Loc} {ls : Array Slot} (hf : f_BH_best_11   x1 σ = some (r, σ2)) (w : Wd g (wX g q) A s σ H locs) (hl : lv_has ls 2 [(0, .ref (q 0)), (1, .int x1)]) : WK p l e s m av below meth c 19 g (wX g q) A (some (.int r)) σ2 H locs (F0 m 11 ls []) := by
  obtain ⟨hx, hb, hml, hown, hts, hK, hA, hZ, hlocks, hr, hN⟩ := id C
  unfold f_BH_best_11 at hf
  refine lv_aload_n hx hb d_BH_best_11 rfl (lv_at hl 0 rfl) ?_
  refine xg_0_tree C w k512 d_BH_best_12 ?_
  refine lv_aload_n hx hb d_BH_best_15 rfl (lv_at hl 0 rfl) ?_
  refine xg_0_fair C w k513 d_BH_best_16 ?_
  refine lv_aload_n hx hb d_BH_best_19 rfl (lv_at hl 0 rfl) ?_
  refine xg_0_book C w k509 d_BH_best_20 ?_
  refine xg_14_now C w k344 d_BH_best_23 ?_
  obtain ⟨σ_2, h_1, hf⟩ := bp_e hf
  refine k_callV (As := [.ref (q 34), .ref (q 15)]) (rest := []) C w (c_Tree_weighRules (q := q) h_1) cv_Tree_weighRules k894 (xr_25 C w) (by decide) hl.1 rfl (Nat.le_of_ble_eq_true rfl) d_BH_best_26 (fun H locs w => ?_)
  show WK p l e s m av below meth c 19 g (wX g q) A (some (.int r)) σ2 H locs (F0 m 29 ls [])
  refine lv_iload_n hx hb d_BH_best_29 rfl (lv_at hl 1 rfl) ?_
  refine lv_if_ne (tgt := 43) hx hb d_BH_best_30 (by decide) (fun cd => ?_) (fun cd => ?_)
  · have hf := if_e cd hf
    refine lv_aload_n hx hb d_BH_best_43 rfl (lv_at hl 0 rfl) ?_
    refine xg_0_tree C w k512 d_BH_best_44 ?_
    refine lv_aload_n hx hb d_BH_best_47 rfl (lv_at hl 0 rfl) ?_
    refine xg_0_book C w k509 d_BH_best_48 ?_
    refine xg_14_now C w k344 d_BH_best_51 ?_
    refine lv_iconst (v := 2) hx hb d_BH_best_54 (by decide) ?_
    refine xl_15 C w (by decide) d_BH_best_55 ?_
    obtain ⟨r_4, h_3, hf⟩ := bp_e hf
    refine k_callV (As := [.int (sA σ_2 9 (2 : Int32).toNatClampNeg)]) (rest := []) C w (c_Tree_winnerLeaves (q := q) h_3) cv_Tree_winnerLeaves k920 (xr_25 C w) (by decide) hl.1 rfl (Nat.le_of_ble_eq_true rfl) d_BH_best_56 (fun H locs w => ?_)
    show WK p l e s m av below meth c 19 g (wX g q) A (some (.int r)) σ2 H locs (F0 m 59 ls [.int r_4])
    obtain ⟨rfl, rfl⟩ := some2_e hf
    exact k_iret C w d_BH_best_59
  · have hf := it_e cd hf
    refine lv_aload_n hx hb d_BH_best_33 rfl (lv_at hl 0 rfl) ?_
    refine xg_0_tree C w k512 d_BH_best_34 ?_
    refine xg_25_winner C w k472 d_BH_best_37 ?_
    refine lv_goto (tgt := 59) hx hb d_BH_best_40 (by decide) ?_
    obtain ⟨rfl, rfl⟩ := some2_e hf
    exact k_iret C w d_BH_best_59
set_option maxHeartbeats 4000000 in
set_option maxRecDepth 20000 in
theorem c_BH_best {l : Launch} {g : GX} {q : Nat → Nat} {x1 : Int32}  {σ : St} {r : Int32} {σ2 : St} (hf : f_BH_best  x1 σ = some (r, σ2)) : KK l y_BH_best prog_1_method_16_code 2 (some .int) 19 g (wX g q) σ [.ref (q 0), .int x1] (some (.int r)) (wX g q) σ2 := by
  refine KK_of (plainFor_of_name (by decide)) (Nat.le_of_ble_eq_true rfl) (fun p e s m below meth c A ls C w hl => ?_)
  have hl : lv_has ls 2 [(0, .ref (q 0)), (1, .int x1)] := hl
  obtain ⟨hx, hb, hml, hown, hts, hK, hA, hZ, hlocks, hr, hN⟩ := id C
  unfold f_BH_best at hf
  refine lv_iload_n hx hb d_BH_best_0 rfl (lv_at hl 1 rfl) ?_
  refine lv_if_eq (tgt := 11) hx hb d_BH_best_1 (by decide) (fun cd => ?_) (fun cd => ?_)
  · have hf := it_e cd hf
    exact t_BH_best_11 C  hf w (lv_sub hl [0, 1] rfl)
  · have hf := if_e cd hf
    refine lv_iload_n hx hb d_BH_best_4 rfl (lv_at hl 1 rfl) ?_
    refine lv_iconst (v := 1) hx hb d_BH_best_5 (by decide) ?_
    refine lv_icmp_eq (tgt := 11) hx hb d_BH_best_6 (by decide) (fun cd => ?_) (fun cd => ?_)
    · have hf := it_e cd hf
      exact t_BH_best_11 C  hf w (lv_sub hl [0, 1] rfl)
    · have hf := if_e cd hf
      refine lv_iconst (v := (-1)) hx hb d_BH_best_9 (by decide) ?_
      obtain ⟨rfl, rfl⟩ := some2_e hf
      exact k_iret C w d_BH_best_10
def f_Tree_weighBells_26b (k14 : Int32 → St → Option (St)) (k26 : Int32 → Int64 → Int32 → St → Option (St)) (x3 : Int32) (x4 : Int64) (x6 : Int32) (σ : St) : Option (St) :=
  if (sI σ 54) ≤ x6 then
    if (lg_cmp x4 (sJ σ 4)) ≤ 0 then
      lt ((x3 + 1)) fun x_1 =>
      k14 x_1 σ
    else
      lt (uI σ 39 x3) fun σ_2 =>
      lt (uJ σ_2 4 x4) fun σ_3 =>
      lt ((x3 + 1)) fun x_4 =>
      k14 x_4 σ_3
  else
    bp (f_Turn_load_2 x6 σ) fun σ_6 =>
    lt (uI σ_6 46 x3) fun σ_7 =>
    bp (f_Arrays_fill_J_2 (-1) σ_7) fun σ_9 =>
    bd (f_Tree_blowsFrom 6 0 0 0 0 0 12960000 σ_9) fun r_11 σ_12 =>
    lt ((x4 + r_11)) fun x_13 =>
    lt ((x6 + 1)) fun x_14 =>
    k26 x3 x_13 x_14 σ_12
def f_Tree_weighBells_26 (k14 : Int32 → St → Option (St)) : Nat → Int32 → Int64 → Int32 → St → Option (St)
  | 0 => fun _ _ _ _ => none
  | n + 1 => f_Tree_weighBells_26b  k14 (f_Tree_weighBells_26  k14 n)
def f_Tree_weighBells_14b (k14 : Int32 → St → Option (St)) (x3 : Int32) (σ : St) : Option (St) :=
  if 99 < x3 then
    some σ
  else
    f_Tree_weighBells_26 k14 FU x3 0 0 σ
def f_Tree_weighBells_14 : Nat → Int32 → St → Option (St)
  | 0 => fun _ _ => none
  | n + 1 => f_Tree_weighBells_14b   (f_Tree_weighBells_14   n)
def f_Tree_weighBells (σ : St) : Option (St) :=
  lt (uI σ 39 (-1)) fun σ_1 =>
  lt (uJ σ_1 4 (-1)) fun σ_2 =>
  f_Tree_weighBells_14 FU 1 σ_2
set_option maxHeartbeats 4000000 in
set_option maxRecDepth 20000 in
theorem t_Tree_weighBells_26b {σ2 : St} (C : Cx g A p s m av meth c prog_9_method_9_code 7 "BellHammer$Tree" none) {k14 : Int32 → St → Option (St)} (hk14 : ∀ (x3 : Int32) (σ : St) (H : Heap) (locs : List Loc) (ls : Array Slot), k14 x3 σ = some σ2 → Wd g (wX g q) A s σ H locs → lv_has ls 7 [(0, .ref (q 25)), (1, .ref (q 34)), (2, .ref (q 15)), (3, .int x3)] → WK p l e s m av below meth c 18 g (wX g q) A none σ2 H locs (F0 m 14 ls [])) {k26 : Int32 → Int64 → Int32 → St → Option (St)} (hk26 : ∀ (x3 : Int32) (x4 : Int64) (x6 : Int32) (σ : St) (H : Heap) (locs : List Loc) (ls : Array Slot), k26 x3 x4 x6 σ = some σ2 → Wd g (wX g q) A s σ H locs → lv_has ls 7 [(0, .ref (q 25)), (1, .ref (q 34)), (2, .ref (q 15)), (3, .int x3), (4, .long x4), (6, .int x6)] → WK p l e s m av below meth c 18 g (wX g q) A none σ2 H locs (F0 m 26 ls []))  {x3 : Int32} {x4 : Int64} {x6 : Int32} {σ : St} {H : Heap} {locs : List Loc} {ls : Array Slot} (hf : f_Tree_weighBells_26b  k14 k26 x3 x4 x6 σ = some σ2) (w : Wd g (wX g q) A s σ H locs) (hl : lv_has ls 7 [(0, .ref (q 25)), (1, .ref (q 34)), (2, .ref (q 15)), (3, .int x3), (4, .long x4), (6, .int x6)]) : WK p l e s m av below meth c 18 g (wX g q) A none σ2 H locs (F0 m 26 ls []) := by
  obtain ⟨hx, hb, hml, hown, hts, hK, hA, hZ, hlocks, hr, hN⟩ := id C
  unfold f_Tree_weighBells_26b at hf
  refine lv_iload hx hb d_Tree_weighBells_26 (lv_at hl 5 rfl) ?_
  refine lv_aload_n hx hb d_Tree_weighBells_28 rfl (lv_at hl 1 rfl) ?_
  refine xg_34_triers C w k277 d_Tree_weighBells_29 ?_
  refine lv_icmp_ge (tgt := 88) hx hb d_Tree_weighBells_32 (by decide) (fun cd => ?_) (fun cd => ?_)
  · have hf := it_e cd hf
    refine lv_lload hx hb d_Tree_weighBells_88 (lv_at hl 4 rfl) ?_
    refine lv_aload_n hx hb d_Tree_weighBells_90 rfl (lv_at hl 0 rfl) ?_
    refine xg_25_winnerBlows C w k473 d_Tree_weighBells_91 ?_
    refine W.lcmp hx hb d_Tree_weighBells_94 ?_
    refine lv_if_le (tgt := 109) hx hb d_Tree_weighBells_95 (by decide) (fun cd => ?_) (fun cd => ?_)
    · have hf := it_e cd hf
      obtain ⟨x_1, ex_1⟩ : ∃ y : Int32, y = (x3 + 1) := ⟨_, rfl⟩
      have hf := lt_e ex_1 hf
      refine lv_iinc (v := x_1) (lv' := [(3, .int x_1), (0, .ref (q 25)), (1, .ref (q 34)), (2, .ref (q 15)), (4, .long x4), (6, .int x6)]) hx hb d_Tree_weighBells_109 hl (k := 3) rfl (by rw [ex_1]; rfl) (by decide) rfl (fun ls hl => ?_)
      refine lv_goto (tgt := 14) hx hb d_Tree_weighBells_112 (by decide) ?_
      exact hk14 x_1 σ _ _ _ hf w (lv_sub hl [1, 2, 3, 0] rfl)
    · have hf := if_e cd hf
      refine lv_aload_n hx hb d_Tree_weighBells_98 rfl (lv_at hl 0 rfl) ?_
      refine lv_iload_n hx hb d_Tree_weighBells_99 rfl (lv_at hl 3 rfl) ?_
      refine xp_25_winner C w k471 d_Tree_weighBells_100 (fun σ_2 H locs eσ_2 w => ?_)
      have hf := lt_e eσ_2 hf
      refine lv_aload_n hx hb d_Tree_weighBells_103 rfl (lv_at hl 0 rfl) ?_
      refine lv_lload hx hb d_Tree_weighBells_104 (lv_at hl 4 rfl) ?_
      refine xp_25_winnerBlows C w k473 d_Tree_weighBells_106 (fun σ_3 H locs eσ_3 w => ?_)
      have hf := lt_e eσ_3 hf
      obtain ⟨x_4, ex_4⟩ : ∃ y : Int32, y = (x3 + 1) := ⟨_, rfl⟩
      have hf := lt_e ex_4 hf
      refine lv_iinc (v := x_4) (lv' := [(3, .int x_4), (0, .ref (q 25)), (1, .ref (q 34)), (2, .ref (q 15)), (4, .long x4), (6, .int x6)]) hx hb d_Tree_weighBells_109 hl (k := 3) rfl (by rw [ex_4]; rfl) (by decide) rfl (fun ls hl => ?_)
      refine lv_goto (tgt := 14) hx hb d_Tree_weighBells_112 (by decide) ?_
      exact hk14 x_4 σ_3 _ _ _ hf w (lv_sub hl [1, 2, 3, 0] rfl)
  · have hf := if_e cd hf
    refine lv_aload_n hx hb d_Tree_weighBells_35 rfl (lv_at hl 0 rfl) ?_
    refine xg_25_turn C w k462 d_Tree_weighBells_36 ?_
    refine lv_aload_n hx hb d_Tree_weighBells_39 rfl (lv_at hl 1 rfl) ?_
    refine lv_iload hx hb d_Tree_weighBells_40 (lv_at hl 5 rfl) ?_
    refine lv_aload_n hx hb d_Tree_weighBells_42 rfl (lv_at hl 2 rfl) ?_
    obtain ⟨σ_6, h_5, hf⟩ := bp_e hf
    refine k_callV (As := [.ref (q 34), .int x6, .ref (q 15)]) (rest := []) C w (c_Turn_load_2 (q := q) h_5) cv_Turn_load k901 (xr_26 C w) (by decide) hl.1 rfl (Nat.le_of_ble_eq_true rfl) d_Tree_weighBells_43 (fun H locs w => ?_)
    show WK p l e s m av below meth c 18 g (wX g q) A none σ2 H locs (F0 m 46 ls [])
    refine lv_aload_n hx hb d_Tree_weighBells_46 rfl (lv_at hl 0 rfl) ?_
    refine xg_25_turn C w k462 d_Tree_weighBells_47 ?_
    refine lv_iload_n hx hb d_Tree_weighBells_50 rfl (lv_at hl 3 rfl) ?_
    refine xp_26_bell C w k416 d_Tree_weighBells_51 (fun σ_7 H locs eσ_7 w => ?_)
    have hf := lt_e eσ_7 hf
    refine lv_aload_n hx hb d_Tree_weighBells_54 rfl (lv_at hl 0 rfl) ?_
    refine xg_25_knownBlows C w k474 d_Tree_weighBells_55 ?_
    refine lv_ldc2 (v := (-1)) hx hb hown (hts _ k905) d_Tree_weighBells_58 ?_
    obtain ⟨σ_9, h_8, hf⟩ := bp_e hf
    refine k_callS (As := [.ref (q 31), .long (-1)]) (rest := []) C w (c_Arrays_fill_J_2 (q := q) h_8) cv_Arrays_fill_J k898 (by decide) hl.1 rfl (Nat.le_of_ble_eq_true rfl) d_Tree_weighBells_61 (fun H locs w => ?_)
    show WK p l e s m av below meth c 18 g (wX g q) A none σ2 H locs (F0 m 64 ls [])
    refine lv_lload hx hb d_Tree_weighBells_64 (lv_at hl 4 rfl) ?_
    refine lv_aload_n hx hb d_Tree_weighBells_66 rfl (lv_at hl 0 rfl) ?_
    refine lv_aload_n hx hb d_Tree_weighBells_67 rfl (lv_at hl 1 rfl) ?_
    refine lv_iconst (v := 0) hx hb d_Tree_weighBells_68 (by decide) ?_
    refine lv_iconst (v := 0) hx hb d_Tree_weighBells_69 (by decide) ?_
    refine lv_iconst (v := 0) hx hb d_Tree_weighBells_70 (by decide) ?_
    refine lv_iconst (v := 0) hx hb d_Tree_weighBells_71 (by decide) ?_
    refine lv_iconst (v := 0) hx hb d_Tree_weighBells_72 (by decide) ?_
    refine lv_ldc2 (v := 12960000) hx hb hown (hts _ k845) d_Tree_weighBells_73 ?_
    obtain ⟨r_11, σ_12, h_10, hf⟩ := bd_e hf
    refine k_callV (As := [.ref (q 34), .int 0, .int 0, .int 0, .int 0, .int 0, .long 12960000]) (rest := [.long x4]) C w (c_Tree_blowsFrom (q := q) 6 _ _ _ _ _ _ _ _ _ h_10) cv_Tree_blowsFrom k906 (xr_25 C w) (by decide) hl.1 rfl (Nat.le_of_ble_eq_true rfl) d_Tree_weighBells_76 (fun H locs w => ?_)
    show WK p l e s m av below meth c 18 g (wX g q) A none σ2 H locs (F0 m 79 ls [.long r_11, .long x4])
    refine lv_ladd hx hb d_Tree_weighBells_79 ?_
    refine lv_topl (fun x_13 ex_13 => ?_)
    have hf := lt_e ex_13 hf
    refine lv_lstore (lv' := [(4, .long x_13), (0, .ref (q 25)), (1, .ref (q 34)), (2, .ref (q 15)), (3, .int x3), (6, .int x6)]) hx hb d_Tree_weighBells_80 hl (by decide) rfl (fun ls hl => ?_)
    obtain ⟨x_14, ex_14⟩ : ∃ y : Int32, y = (x6 + 1) := ⟨_, rfl⟩
    have hf := lt_e ex_14 hf
    refine lv_iinc (v := x_14) (lv' := [(6, .int x_14), (4, .long x_13), (0, .ref (q 25)), (1, .ref (q 34)), (2, .ref (q 15)), (3, .int x3)]) hx hb d_Tree_weighBells_82 hl (k := 5) rfl (by rw [ex_14]; rfl) (by decide) rfl (fun ls hl => ?_)
    refine lv_goto (tgt := 26) hx hb d_Tree_weighBells_85 (by decide) ?_
    exact hk26 x3 x_13 x_14 σ_12 _ _ _ hf w (lv_sub hl [2, 3, 4, 5, 1, 0] rfl)
set_option maxHeartbeats 4000000 in
set_option maxRecDepth 20000 in
theorem t_Tree_weighBells_26 {σ2 : St} (C : Cx g A p s m av meth c prog_9_method_9_code 7 "BellHammer$Tree" none) {k14 : Int32 → St → Option (St)} (hk14 : ∀ (x3 : Int32) (σ : St) (H : Heap) (locs : List Loc) (ls : Array Slot), k14 x3 σ = some σ2 → Wd g (wX g q) A s σ H locs → lv_has ls 7 [(0, .ref (q 25)), (1, .ref (q 34)), (2, .ref (q 15)), (3, .int x3)] → WK p l e s m av below meth c 18 g (wX g q) A none σ2 H locs (F0 m 14 ls []))  : ∀ (n : Nat) (x3 : Int32) (x4 : Int64) (x6 : Int32) (σ : St) (H : Heap) (locs : List Loc) (ls : Array Slot), f_Tree_weighBells_26  k14 n x3 x4 x6 σ = some σ2 → Wd g (wX g q) A s σ H locs → lv_has ls 7 [(0, .ref (q 25)), (1, .ref (q 34)), (2, .ref (q 15)), (3, .int x3), (4, .long x4), (6, .int x6)] → WK p l e s m av below meth c 18 g (wX g q) A none σ2 H locs (F0 m 26 ls []) := by
  intro n
  induction n with
  | zero => intro x3 x4 x6 σ H locs ls hf; exact absurd hf (by intro z; cases z)
  | succ n ih => intro x3 x4 x6 σ H locs ls hf w hl; exact t_Tree_weighBells_26b C hk14 ih hf w hl
set_option maxHeartbeats 4000000 in
set_option maxRecDepth 20000 in
theorem t_Tree_weighBells_14b {σ2 : St} (C : Cx g A p s m av meth c prog_9_method_9_code 7 "BellHammer$Tree" none) {k14 : Int32 → St → Option (St)} (hk14 : ∀ (x3 : Int32) (σ : St) (H : Heap) (locs : List Loc) (ls : Array Slot), k14 x3 σ = some σ2 → Wd g (wX g q) A s σ H locs → lv_has ls 7 [(0, .ref (q 25)), (1, .ref (q 34)), (2, .ref (q 15)), (3, .int x3)] → WK p l e s m av below meth c 18 g (wX g q) A none σ2 H locs (F0 m 14 ls []))  {x3 : Int32} {σ : St} {H : Heap} {locs : List Loc} {ls : Array Slot} (hf : f_Tree_weighBells_14b  k14 x3 σ = some σ2) (w : Wd g (wX g q) A s σ H locs) (hl : lv_has ls 7 [(0, .ref (q 25)), (1, .ref (q 34)), (2, .ref (q 15)), (3, .int x3)]) : WK p l e s m av below meth c 18 g (wX g q) A none σ2 H locs (F0 m 14 ls []) := by
  obtain ⟨hx, hb, hml, hown, hts, hK, hA, hZ, hlocks, hr, hN⟩ := id C
  unfold f_Tree_weighBells_14b at hf
  refine lv_iload_n hx hb d_Tree_weighBells_14 rfl (lv_at hl 3 rfl) ?_
  refine lv_bipush (v := 99) hx hb d_Tree_weighBells_15 (by decide) ?_
  refine lv_icmp_gt (tgt := 115) hx hb d_Tree_weighBells_17 (by decide) (fun cd => ?_) (fun cd => ?_)
  · have hf := it_e cd hf
    cases some_e hf
    exact k_vret C w d_Tree_weighBells_115
  · have hf := if_e cd hf
    refine lv_lconst (v := 0) hx hb d_Tree_weighBells_20 (by decide) ?_
    refine lv_lstore (lv' := [(4, .long 0), (0, .ref (q 25)), (1, .ref (q 34)), (2, .ref (q 15)), (3, .int x3)]) hx hb d_Tree_weighBells_21 hl (by decide) rfl (fun ls hl => ?_)
    refine lv_iconst (v := 0) hx hb d_Tree_weighBells_23 (by decide) ?_
    refine lv_istore (lv' := [(6, .int 0), (4, .long 0), (0, .ref (q 25)), (1, .ref (q 34)), (2, .ref (q 15)), (3, .int x3)]) hx hb d_Tree_weighBells_24 hl (by decide) rfl (fun ls hl => ?_)
    exact t_Tree_weighBells_26 C hk14 FU x3 0 0 σ _ _ _ hf w (lv_sub hl [2, 3, 4, 5, 1, 0] rfl)
set_option maxHeartbeats 4000000 in
set_option maxRecDepth 20000 in
theorem t_Tree_weighBells_14 {σ2 : St} (C : Cx g A p s m av meth c prog_9_method_9_code 7 "BellHammer$Tree" none)  : ∀ (n : Nat) (x3 : Int32) (σ : St) (H : Heap) (locs : List Loc) (ls : Array Slot), f_Tree_weighBells_14   n x3 σ = some σ2 → Wd g (wX g q) A s σ H locs → lv_has ls 7 [(0, .ref (q 25)), (1, .ref (q 34)), (2, .ref (q 15)), (3, .int x3)] → WK p l e s m av below meth c 18 g (wX g q) A none σ2 H locs (F0 m 14 ls []) := by
  intro n
  induction n with
  | zero => intro x3 σ H locs ls hf; exact absurd hf (by intro z; cases z)
  | succ n ih => intro x3 σ H locs ls hf w hl; exact t_Tree_weighBells_14b C  ih hf w hl
set_option maxHeartbeats 4000000 in
set_option maxRecDepth 20000 in
theorem c_Tree_weighBells {l : Launch} {g : GX} {q : Nat → Nat}  {σ : St} {σ2 : St} (hf : f_Tree_weighBells   σ = some σ2) : KK l y_Tree_weighBells prog_9_method_9_code 7 none 18 g (wX g q) σ [.ref (q 25), .ref (q 34), .ref (q 15)] none (wX g q) σ2 := by
  refine KK_of (plainFor_of_name (by decide)) (Nat.le_of_ble_eq_true rfl) (fun p e s m below meth c A ls C w hl => ?_)
  have hl : lv_has ls 7 [(0, .ref (q 25)), (1, .ref (q 34)), (2, .ref (q 15))] := hl
  obtain ⟨hx, hb, hml, hown, hts, hK, hA, hZ, hlocks, hr, hN⟩ := id C
  unfold f_Tree_weighBells at hf
  refine lv_aload_n hx hb d_Tree_weighBells_0 rfl (lv_at hl 0 rfl) ?_
  refine lv_iconst (v := (-1)) hx hb d_Tree_weighBells_1 (by decide) ?_
  refine xp_25_winner C w k471 d_Tree_weighBells_2 (fun σ_1 H locs eσ_1 w => ?_)
  have hf := lt_e eσ_1 hf
  refine lv_aload_n hx hb d_Tree_weighBells_5 rfl (lv_at hl 0 rfl) ?_
  refine lv_ldc2 (v := (-1)) hx hb hown (hts _ k905) d_Tree_weighBells_6 ?_
  refine xp_25_winnerBlows C w k473 d_Tree_weighBells_9 (fun σ_2 H locs eσ_2 w => ?_)
  have hf := lt_e eσ_2 hf
  refine lv_iconst (v := 1) hx hb d_Tree_weighBells_12 (by decide) ?_
  refine lv_istore_n (lv' := [(3, .int 1), (0, .ref (q 25)), (1, .ref (q 34)), (2, .ref (q 15))]) hx hb d_Tree_weighBells_13 rfl hl (by decide) rfl (fun ls hl => ?_)
  exact t_Tree_weighBells_14 C  FU 1 σ_2 _ _ _ hf w (lv_sub hl [1, 2, 3, 0] rfl)
