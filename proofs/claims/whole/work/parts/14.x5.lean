variable {p : Program} {l : Launch} {e : Env} {s : State} {m : MethodId} {av : Array Value} {below : List Frame} {meth : Method} {c : Code} {g : GX} {q : Nat → Nat} {A : Nat → Prop}
theorem d_Tree_rulesAt_0 : decode prog_9_method_11_code 0 = .ok (.aload_n 0, 1) := by decide +kernel
theorem d_Tree_rulesAt_1 : decode prog_9_method_11_code 1 = .ok (.getfield 29, 3) := by decide +kernel
theorem d_Tree_rulesAt_4 : decode prog_9_method_11_code 4 = .ok (.iload_n 2, 1) := by decide +kernel
theorem d_Tree_rulesAt_5 : decode prog_9_method_11_code 5 = .ok (.iaload, 1) := by decide +kernel
theorem d_Tree_rulesAt_6 : decode prog_9_method_11_code 6 = .ok (.iconst (-1), 1) := by decide +kernel
theorem d_Tree_rulesAt_7 : decode prog_9_method_11_code 7 = .ok (.if_icmp .ne 60, 3) := by decide +kernel
theorem d_Tree_rulesAt_10 : decode prog_9_method_11_code 10 = .ok (.aload_n 0, 1) := by decide +kernel
theorem d_Tree_rulesAt_11 : decode prog_9_method_11_code 11 = .ok (.getfield 21, 3) := by decide +kernel
theorem d_Tree_rulesAt_14 : decode prog_9_method_11_code 14 = .ok (.aload_n 0, 1) := by decide +kernel
theorem d_Tree_rulesAt_15 : decode prog_9_method_11_code 15 = .ok (.getfield 14, 3) := by decide +kernel
theorem d_Tree_rulesAt_18 : decode prog_9_method_11_code 18 = .ok (.iload_n 3, 1) := by decide +kernel
theorem d_Tree_rulesAt_19 : decode prog_9_method_11_code 19 = .ok (.iload 4, 2) := by decide +kernel
theorem d_Tree_rulesAt_21 : decode prog_9_method_11_code 21 = .ok (.invokevirtual 169, 3) := by decide +kernel
theorem d_Tree_rulesAt_24 : decode prog_9_method_11_code 24 = .ok (.iload_n 3, 1) := by decide +kernel
theorem d_Tree_rulesAt_25 : decode prog_9_method_11_code 25 = .ok (.iload 5, 2) := by decide +kernel
theorem d_Tree_rulesAt_27 : decode prog_9_method_11_code 27 = .ok (.iconst 0, 1) := by decide +kernel
theorem d_Tree_rulesAt_28 : decode prog_9_method_11_code 28 = .ok (.invokevirtual 90, 3) := by decide +kernel
theorem d_Tree_rulesAt_31 : decode prog_9_method_11_code 31 = .ok (.aload_n 0, 1) := by decide +kernel
theorem d_Tree_rulesAt_32 : decode prog_9_method_11_code 32 = .ok (.getfield 21, 3) := by decide +kernel
theorem d_Tree_rulesAt_35 : decode prog_9_method_11_code 35 = .ok (.aload_n 0, 1) := by decide +kernel
theorem d_Tree_rulesAt_36 : decode prog_9_method_11_code 36 = .ok (.getfield 14, 3) := by decide +kernel
theorem d_Tree_rulesAt_39 : decode prog_9_method_11_code 39 = .ok (.getfield 94, 3) := by decide +kernel
theorem d_Tree_rulesAt_42 : decode prog_9_method_11_code 42 = .ok (.aload_n 0, 1) := by decide +kernel
theorem d_Tree_rulesAt_43 : decode prog_9_method_11_code 43 = .ok (.getfield 14, 3) := by decide +kernel
theorem d_Tree_rulesAt_46 : decode prog_9_method_11_code 46 = .ok (.iload_n 3, 1) := by decide +kernel
theorem d_Tree_rulesAt_47 : decode prog_9_method_11_code 47 = .ok (.invokevirtual 97, 3) := by decide +kernel
theorem d_Tree_rulesAt_50 : decode prog_9_method_11_code 50 = .ok (.invokevirtual 101, 3) := by decide +kernel
theorem d_Tree_rulesAt_53 : decode prog_9_method_11_code 53 = .ok (.aload_n 0, 1) := by decide +kernel
theorem d_Tree_rulesAt_54 : decode prog_9_method_11_code 54 = .ok (.getfield 29, 3) := by decide +kernel
theorem d_Tree_rulesAt_57 : decode prog_9_method_11_code 57 = .ok (.iload_n 2, 1) := by decide +kernel
theorem d_Tree_rulesAt_58 : decode prog_9_method_11_code 58 = .ok (.aload_n 0, 1) := by decide +kernel
theorem d_Tree_rulesAt_59 : decode prog_9_method_11_code 59 = .ok (.getfield 21, 3) := by decide +kernel
theorem d_Tree_rulesAt_62 : decode prog_9_method_11_code 62 = .ok (.aload_n 1, 1) := by decide +kernel
theorem d_Tree_rulesAt_63 : decode prog_9_method_11_code 63 = .ok (.invokevirtual 105, 3) := by decide +kernel
theorem d_Tree_rulesAt_66 : decode prog_9_method_11_code 66 = .ok (.iastore, 1) := by decide +kernel
theorem d_Tree_rulesAt_67 : decode prog_9_method_11_code 67 = .ok (.aload_n 0, 1) := by decide +kernel
theorem d_Tree_rulesAt_68 : decode prog_9_method_11_code 68 = .ok (.getfield 29, 3) := by decide +kernel
theorem d_Tree_rulesAt_71 : decode prog_9_method_11_code 71 = .ok (.iload_n 2, 1) := by decide +kernel
theorem d_Tree_rulesAt_72 : decode prog_9_method_11_code 72 = .ok (.iaload, 1) := by decide +kernel
theorem d_Tree_rulesAt_73 : decode prog_9_method_11_code 73 = .ok (.ireturn, 1) := by decide +kernel
theorem d_Tree_blowsFrom_0 : decode prog_9_method_10_code 0 = .ok (.iload_n 3, 1) := by decide +kernel
theorem d_Tree_blowsFrom_1 : decode prog_9_method_10_code 1 = .ok (.iconst 4, 1) := by decide +kernel
theorem d_Tree_blowsFrom_2 : decode prog_9_method_10_code 2 = .ok (.imul, 1) := by decide +kernel
theorem d_Tree_blowsFrom_3 : decode prog_9_method_10_code 3 = .ok (.iload 4, 2) := by decide +kernel
theorem d_Tree_blowsFrom_5 : decode prog_9_method_10_code 5 = .ok (.iadd, 1) := by decide +kernel
theorem d_Tree_blowsFrom_6 : decode prog_9_method_10_code 6 = .ok (.bipush 12, 2) := by decide +kernel
theorem d_Tree_blowsFrom_8 : decode prog_9_method_10_code 8 = .ok (.imul, 1) := by decide +kernel
theorem d_Tree_blowsFrom_9 : decode prog_9_method_10_code 9 = .ok (.iload 5, 2) := by decide +kernel
theorem d_Tree_blowsFrom_11 : decode prog_9_method_10_code 11 = .ok (.iadd, 1) := by decide +kernel
theorem d_Tree_blowsFrom_12 : decode prog_9_method_10_code 12 = .ok (.istore 9, 2) := by decide +kernel
theorem d_Tree_blowsFrom_14 : decode prog_9_method_10_code 14 = .ok (.iload 9, 2) := by decide +kernel
theorem d_Tree_blowsFrom_16 : decode prog_9_method_10_code 16 = .ok (.ifCond .lt 24, 3) := by decide +kernel
theorem d_Tree_blowsFrom_19 : decode prog_9_method_10_code 19 = .ok (.iload 9, 2) := by decide +kernel
theorem d_Tree_blowsFrom_21 : decode prog_9_method_10_code 21 = .ok (.sipush 192, 3) := by decide +kernel
theorem d_Tree_blowsFrom_24 : decode prog_9_method_10_code 24 = .ok (.if_icmp .ge 16, 3) := by decide +kernel
theorem d_Tree_blowsFrom_27 : decode prog_9_method_10_code 27 = .ok (.aload_n 0, 1) := by decide +kernel
theorem d_Tree_blowsFrom_28 : decode prog_9_method_10_code 28 = .ok (.getfield 14, 3) := by decide +kernel
theorem d_Tree_blowsFrom_31 : decode prog_9_method_10_code 31 = .ok (.iload_n 3, 1) := by decide +kernel
theorem d_Tree_blowsFrom_32 : decode prog_9_method_10_code 32 = .ok (.iload 6, 2) := by decide +kernel
theorem d_Tree_blowsFrom_34 : decode prog_9_method_10_code 34 = .ok (.invokevirtual 77, 3) := by decide +kernel
theorem d_Tree_blowsFrom_37 : decode prog_9_method_10_code 37 = .ok (.ifCond .ne 5, 3) := by decide +kernel
theorem d_Tree_blowsFrom_40 : decode prog_9_method_10_code 40 = .ok (.lconst 0, 1) := by decide +kernel
theorem d_Tree_blowsFrom_41 : decode prog_9_method_10_code 41 = .ok (.lreturn, 1) := by decide +kernel
theorem d_Tree_blowsFrom_42 : decode prog_9_method_10_code 42 = .ok (.aload_n 0, 1) := by decide +kernel
theorem d_Tree_blowsFrom_43 : decode prog_9_method_10_code 43 = .ok (.getfield 25, 3) := by decide +kernel
theorem d_Tree_blowsFrom_46 : decode prog_9_method_10_code 46 = .ok (.iload 9, 2) := by decide +kernel
theorem d_Tree_blowsFrom_48 : decode prog_9_method_10_code 48 = .ok (.laload, 1) := by decide +kernel
theorem d_Tree_blowsFrom_49 : decode prog_9_method_10_code 49 = .ok (.ldc2_w 148, 3) := by decide +kernel
theorem d_Tree_blowsFrom_52 : decode prog_9_method_10_code 52 = .ok (.lcmp, 1) := by decide +kernel
theorem d_Tree_blowsFrom_53 : decode prog_9_method_10_code 53 = .ok (.ifCond .eq 11, 3) := by decide +kernel
theorem d_Tree_blowsFrom_56 : decode prog_9_method_10_code 56 = .ok (.aload_n 0, 1) := by decide +kernel
theorem d_Tree_blowsFrom_57 : decode prog_9_method_10_code 57 = .ok (.getfield 25, 3) := by decide +kernel
theorem d_Tree_blowsFrom_60 : decode prog_9_method_10_code 60 = .ok (.iload 9, 2) := by decide +kernel
theorem d_Tree_blowsFrom_62 : decode prog_9_method_10_code 62 = .ok (.laload, 1) := by decide +kernel
theorem d_Tree_blowsFrom_63 : decode prog_9_method_10_code 63 = .ok (.lreturn, 1) := by decide +kernel
theorem d_Tree_blowsFrom_64 : decode prog_9_method_10_code 64 = .ok (.iload_n 2, 1) := by decide +kernel
theorem d_Tree_blowsFrom_65 : decode prog_9_method_10_code 65 = .ok (.ifCond .eq 24, 3) := by decide +kernel
theorem d_Tree_blowsFrom_68 : decode prog_9_method_10_code 68 = .ok (.aload_n 0, 1) := by decide +kernel
theorem d_Tree_blowsFrom_69 : decode prog_9_method_10_code 69 = .ok (.aload_n 1, 1) := by decide +kernel
theorem d_Tree_blowsFrom_70 : decode prog_9_method_10_code 70 = .ok (.iload 9, 2) := by decide +kernel
theorem d_Tree_blowsFrom_72 : decode prog_9_method_10_code 72 = .ok (.iload_n 3, 1) := by decide +kernel
theorem d_Tree_blowsFrom_73 : decode prog_9_method_10_code 73 = .ok (.iload 4, 2) := by decide +kernel
theorem d_Tree_blowsFrom_75 : decode prog_9_method_10_code 75 = .ok (.iload 6, 2) := by decide +kernel
theorem d_Tree_blowsFrom_77 : decode prog_9_method_10_code 77 = .ok (.invokevirtual 160, 3) := by decide +kernel
theorem d_Tree_blowsFrom_80 : decode prog_9_method_10_code 80 = .ok (.iload_n 2, 1) := by decide +kernel
theorem d_Tree_blowsFrom_81 : decode prog_9_method_10_code 81 = .ok (.iand, 1) := by decide +kernel
theorem d_Tree_blowsFrom_82 : decode prog_9_method_10_code 82 = .ok (.ifCond .eq 7, 3) := by decide +kernel
theorem d_Tree_blowsFrom_85 : decode prog_9_method_10_code 85 = .ok (.iconst 1, 1) := by decide +kernel
theorem d_Tree_blowsFrom_86 : decode prog_9_method_10_code 86 = .ok (.goto 4, 3) := by decide +kernel
theorem d_Tree_blowsFrom_89 : decode prog_9_method_10_code 89 = .ok (.iconst 0, 1) := by decide +kernel
theorem d_Tree_blowsFrom_90 : decode prog_9_method_10_code 90 = .ok (.istore 10, 2) := by decide +kernel
theorem d_Tree_blowsFrom_92 : decode prog_9_method_10_code 92 = .ok (.lconst 0, 1) := by decide +kernel
theorem d_Tree_blowsFrom_93 : decode prog_9_method_10_code 93 = .ok (.lstore 11, 2) := by decide +kernel
theorem d_Tree_blowsFrom_95 : decode prog_9_method_10_code 95 = .ok (.iconst 0, 1) := by decide +kernel
theorem d_Tree_blowsFrom_96 : decode prog_9_method_10_code 96 = .ok (.istore 13, 2) := by decide +kernel
theorem d_Tree_blowsFrom_98 : decode prog_9_method_10_code 98 = .ok (.iload 13, 2) := by decide +kernel
theorem d_Tree_blowsFrom_100 : decode prog_9_method_10_code 100 = .ok (.aload_n 0, 1) := by decide +kernel
theorem d_Tree_blowsFrom_101 : decode prog_9_method_10_code 101 = .ok (.getfield 14, 3) := by decide +kernel
theorem d_Tree_blowsFrom_104 : decode prog_9_method_10_code 104 = .ok (.getfield 113, 3) := by decide +kernel
theorem d_Tree_blowsFrom_107 : decode prog_9_method_10_code 107 = .ok (.if_icmp .gt 84, 3) := by decide +kernel
theorem d_Tree_blowsFrom_110 : decode prog_9_method_10_code 110 = .ok (.aload_n 0, 1) := by decide +kernel
theorem d_Tree_blowsFrom_111 : decode prog_9_method_10_code 111 = .ok (.getfield 14, 3) := by decide +kernel
theorem d_Tree_blowsFrom_114 : decode prog_9_method_10_code 114 = .ok (.iload_n 3, 1) := by decide +kernel
theorem d_Tree_blowsFrom_115 : decode prog_9_method_10_code 115 = .ok (.iload 13, 2) := by decide +kernel
theorem d_Tree_blowsFrom_117 : decode prog_9_method_10_code 117 = .ok (.iload 10, 2) := by decide +kernel
theorem d_Tree_blowsFrom_119 : decode prog_9_method_10_code 119 = .ok (.invokevirtual 116, 3) := by decide +kernel
theorem d_Tree_blowsFrom_122 : decode prog_9_method_10_code 122 = .ok (.istore 14, 2) := by decide +kernel
theorem d_Tree_blowsFrom_124 : decode prog_9_method_10_code 124 = .ok (.iload 4, 2) := by decide +kernel
theorem d_Tree_blowsFrom_126 : decode prog_9_method_10_code 126 = .ok (.aload_n 0, 1) := by decide +kernel
theorem d_Tree_blowsFrom_127 : decode prog_9_method_10_code 127 = .ok (.getfield 14, 3) := by decide +kernel
theorem d_Tree_blowsFrom_130 : decode prog_9_method_10_code 130 = .ok (.iload 14, 2) := by decide +kernel
theorem d_Tree_blowsFrom_132 : decode prog_9_method_10_code 132 = .ok (.invokevirtual 164, 3) := by decide +kernel
theorem d_Tree_blowsFrom_135 : decode prog_9_method_10_code 135 = .ok (.ifCond .eq 7, 3) := by decide +kernel
theorem d_Tree_blowsFrom_138 : decode prog_9_method_10_code 138 = .ok (.iconst 1, 1) := by decide +kernel
theorem d_Tree_blowsFrom_139 : decode prog_9_method_10_code 139 = .ok (.goto 4, 3) := by decide +kernel
theorem d_Tree_blowsFrom_142 : decode prog_9_method_10_code 142 = .ok (.iconst 0, 1) := by decide +kernel
theorem d_Tree_blowsFrom_143 : decode prog_9_method_10_code 143 = .ok (.iadd, 1) := by decide +kernel
theorem d_Tree_blowsFrom_144 : decode prog_9_method_10_code 144 = .ok (.istore 15, 2) := by decide +kernel
theorem d_Tree_blowsFrom_146 : decode prog_9_method_10_code 146 = .ok (.lload 11, 2) := by decide +kernel
theorem d_Tree_blowsFrom_148 : decode prog_9_method_10_code 148 = .ok (.aload_n 0, 1) := by decide +kernel
theorem d_Tree_blowsFrom_149 : decode prog_9_method_10_code 149 = .ok (.aload_n 1, 1) := by decide +kernel
theorem d_Tree_blowsFrom_150 : decode prog_9_method_10_code 150 = .ok (.iload_n 2, 1) := by decide +kernel
theorem d_Tree_blowsFrom_151 : decode prog_9_method_10_code 151 = .ok (.iload_n 3, 1) := by decide +kernel
theorem d_Tree_blowsFrom_152 : decode prog_9_method_10_code 152 = .ok (.iconst 1, 1) := by decide +kernel
theorem d_Tree_blowsFrom_153 : decode prog_9_method_10_code 153 = .ok (.iadd, 1) := by decide +kernel
theorem d_Tree_blowsFrom_154 : decode prog_9_method_10_code 154 = .ok (.iload 15, 2) := by decide +kernel
theorem d_Tree_blowsFrom_156 : decode prog_9_method_10_code 156 = .ok (.iload 10, 2) := by decide +kernel
theorem d_Tree_blowsFrom_158 : decode prog_9_method_10_code 158 = .ok (.ifCond .eq 11, 3) := by decide +kernel
theorem d_Tree_blowsFrom_161 : decode prog_9_method_10_code 161 = .ok (.iload 13, 2) := by decide +kernel
theorem d_Tree_blowsFrom_163 : decode prog_9_method_10_code 163 = .ok (.bipush 6, 2) := by decide +kernel
theorem d_Tree_blowsFrom_165 : decode prog_9_method_10_code 165 = .ok (.iadd, 1) := by decide +kernel
theorem d_Tree_blowsFrom_166 : decode prog_9_method_10_code 166 = .ok (.goto 5, 3) := by decide +kernel
theorem d_Tree_blowsFrom_169 : decode prog_9_method_10_code 169 = .ok (.iload 13, 2) := by decide +kernel
theorem d_Tree_blowsFrom_171 : decode prog_9_method_10_code 171 = .ok (.iload 14, 2) := by decide +kernel
theorem d_Tree_blowsFrom_173 : decode prog_9_method_10_code 173 = .ok (.lload 7, 2) := by decide +kernel
theorem d_Tree_blowsFrom_175 : decode prog_9_method_10_code 175 = .ok (.ldc2_w 167, 3) := by decide +kernel
theorem d_Tree_blowsFrom_178 : decode prog_9_method_10_code 178 = .ok (.ldiv, 1) := by decide +kernel
theorem d_Tree_blowsFrom_179 : decode prog_9_method_10_code 179 = .ok (.invokevirtual 150, 3) := by decide +kernel
theorem d_Tree_blowsFrom_182 : decode prog_9_method_10_code 182 = .ok (.ladd, 1) := by decide +kernel
theorem d_Tree_blowsFrom_183 : decode prog_9_method_10_code 183 = .ok (.lstore 11, 2) := by decide +kernel
theorem d_Tree_blowsFrom_185 : decode prog_9_method_10_code 185 = .ok (.iinc 13 1, 3) := by decide +kernel
theorem d_Tree_blowsFrom_188 : decode prog_9_method_10_code 188 = .ok (.goto (-90), 3) := by decide +kernel
theorem d_Tree_blowsFrom_191 : decode prog_9_method_10_code 191 = .ok (.aload_n 0, 1) := by decide +kernel
theorem d_Tree_blowsFrom_192 : decode prog_9_method_10_code 192 = .ok (.getfield 25, 3) := by decide +kernel
theorem d_Tree_blowsFrom_195 : decode prog_9_method_10_code 195 = .ok (.iload 9, 2) := by decide +kernel
theorem d_Tree_blowsFrom_197 : decode prog_9_method_10_code 197 = .ok (.lload 7, 2) := by decide +kernel
theorem d_Tree_blowsFrom_199 : decode prog_9_method_10_code 199 = .ok (.lload 11, 2) := by decide +kernel
theorem d_Tree_blowsFrom_201 : decode prog_9_method_10_code 201 = .ok (.aload_n 0, 1) := by decide +kernel
theorem d_Tree_blowsFrom_202 : decode prog_9_method_10_code 202 = .ok (.ldc2_w 167, 3) := by decide +kernel
theorem d_Tree_blowsFrom_205 : decode prog_9_method_10_code 205 = .ok (.invokevirtual 109, 3) := by decide +kernel
theorem d_Tree_blowsFrom_208 : decode prog_9_method_10_code 208 = .ok (.lmul, 1) := by decide +kernel
theorem d_Tree_blowsFrom_209 : decode prog_9_method_10_code 209 = .ok (.ladd, 1) := by decide +kernel
theorem d_Tree_blowsFrom_210 : decode prog_9_method_10_code 210 = .ok (.lastore, 1) := by decide +kernel
theorem d_Tree_blowsFrom_211 : decode prog_9_method_10_code 211 = .ok (.aload_n 0, 1) := by decide +kernel
theorem d_Tree_blowsFrom_212 : decode prog_9_method_10_code 212 = .ok (.getfield 25, 3) := by decide +kernel
theorem d_Tree_blowsFrom_215 : decode prog_9_method_10_code 215 = .ok (.iload 9, 2) := by decide +kernel
theorem d_Tree_blowsFrom_217 : decode prog_9_method_10_code 217 = .ok (.laload, 1) := by decide +kernel
theorem d_Tree_blowsFrom_218 : decode prog_9_method_10_code 218 = .ok (.lreturn, 1) := by decide +kernel
theorem d_Tree_weighRules_0 : decode prog_9_method_8_code 0 = .ok (.iconst 1, 1) := by decide +kernel
theorem d_Tree_weighRules_1 : decode prog_9_method_8_code 1 = .ok (.aload_n 1, 1) := by decide +kernel
theorem d_Tree_weighRules_2 : decode prog_9_method_8_code 2 = .ok (.getfield 127, 3) := by decide +kernel
theorem d_Tree_weighRules_5 : decode prog_9_method_8_code 5 = .ok (.bipush 6, 2) := by decide +kernel
theorem d_Tree_weighRules_7 : decode prog_9_method_8_code 7 = .ok (.invokestatic 81, 3) := by decide +kernel
theorem d_Tree_weighRules_10 : decode prog_9_method_8_code 10 = .ok (.ishl, 1) := by decide +kernel
theorem d_Tree_weighRules_11 : decode prog_9_method_8_code 11 = .ok (.istore_n 3, 1) := by decide +kernel
theorem d_Tree_weighRules_12 : decode prog_9_method_8_code 12 = .ok (.aload_n 0, 1) := by decide +kernel
theorem d_Tree_weighRules_13 : decode prog_9_method_8_code 13 = .ok (.getfield 33, 3) := by decide +kernel
theorem d_Tree_weighRules_16 : decode prog_9_method_8_code 16 = .ok (.lconst 0, 1) := by decide +kernel
theorem d_Tree_weighRules_17 : decode prog_9_method_8_code 17 = .ok (.invokestatic 132, 3) := by decide +kernel
theorem d_Tree_weighRules_20 : decode prog_9_method_8_code 20 = .ok (.iconst 0, 1) := by decide +kernel
theorem d_Tree_weighRules_21 : decode prog_9_method_8_code 21 = .ok (.istore 4, 2) := by decide +kernel
theorem d_Tree_weighRules_23 : decode prog_9_method_8_code 23 = .ok (.iload 4, 2) := by decide +kernel
theorem d_Tree_weighRules_25 : decode prog_9_method_8_code 25 = .ok (.aload_n 1, 1) := by decide +kernel
theorem d_Tree_weighRules_26 : decode prog_9_method_8_code 26 = .ok (.getfield 138, 3) := by decide +kernel
theorem d_Tree_weighRules_29 : decode prog_9_method_8_code 29 = .ok (.if_icmp .ge 77, 3) := by decide +kernel
theorem d_Tree_weighRules_32 : decode prog_9_method_8_code 32 = .ok (.aload_n 0, 1) := by decide +kernel
theorem d_Tree_weighRules_33 : decode prog_9_method_8_code 33 = .ok (.getfield 14, 3) := by decide +kernel
theorem d_Tree_weighRules_36 : decode prog_9_method_8_code 36 = .ok (.aload_n 1, 1) := by decide +kernel
theorem d_Tree_weighRules_37 : decode prog_9_method_8_code 37 = .ok (.iload 4, 2) := by decide +kernel
theorem d_Tree_weighRules_39 : decode prog_9_method_8_code 39 = .ok (.aload_n 2, 1) := by decide +kernel
theorem d_Tree_weighRules_40 : decode prog_9_method_8_code 40 = .ok (.invokevirtual 141, 3) := by decide +kernel
theorem d_Tree_weighRules_43 : decode prog_9_method_8_code 43 = .ok (.aload_n 0, 1) := by decide +kernel
theorem d_Tree_weighRules_44 : decode prog_9_method_8_code 44 = .ok (.getfield 29, 3) := by decide +kernel
theorem d_Tree_weighRules_47 : decode prog_9_method_8_code 47 = .ok (.iconst (-1), 1) := by decide +kernel
theorem d_Tree_weighRules_48 : decode prog_9_method_8_code 48 = .ok (.invokestatic 145, 3) := by decide +kernel
theorem d_Tree_weighRules_51 : decode prog_9_method_8_code 51 = .ok (.iconst 0, 1) := by decide +kernel
theorem d_Tree_weighRules_52 : decode prog_9_method_8_code 52 = .ok (.istore 5, 2) := by decide +kernel
theorem d_Tree_weighRules_54 : decode prog_9_method_8_code 54 = .ok (.iload 5, 2) := by decide +kernel
theorem d_Tree_weighRules_56 : decode prog_9_method_8_code 56 = .ok (.iload_n 3, 1) := by decide +kernel
theorem d_Tree_weighRules_57 : decode prog_9_method_8_code 57 = .ok (.if_icmp .ge 43, 3) := by decide +kernel
theorem d_Tree_weighRules_60 : decode prog_9_method_8_code 60 = .ok (.aload_n 0, 1) := by decide +kernel
theorem d_Tree_weighRules_61 : decode prog_9_method_8_code 61 = .ok (.getfield 25, 3) := by decide +kernel
theorem d_Tree_weighRules_64 : decode prog_9_method_8_code 64 = .ok (.ldc2_w 148, 3) := by decide +kernel
theorem d_Tree_weighRules_67 : decode prog_9_method_8_code 67 = .ok (.invokestatic 132, 3) := by decide +kernel
theorem d_Tree_weighRules_70 : decode prog_9_method_8_code 70 = .ok (.aload_n 0, 1) := by decide +kernel
theorem d_Tree_weighRules_71 : decode prog_9_method_8_code 71 = .ok (.getfield 33, 3) := by decide +kernel
theorem d_Tree_weighRules_74 : decode prog_9_method_8_code 74 = .ok (.iload 5, 2) := by decide +kernel
theorem d_Tree_weighRules_76 : decode prog_9_method_8_code 76 = .ok (.dup2, 1) := by decide +kernel
theorem d_Tree_weighRules_77 : decode prog_9_method_8_code 77 = .ok (.laload, 1) := by decide +kernel
theorem d_Tree_weighRules_78 : decode prog_9_method_8_code 78 = .ok (.aload_n 0, 1) := by decide +kernel
theorem d_Tree_weighRules_79 : decode prog_9_method_8_code 79 = .ok (.aload_n 1, 1) := by decide +kernel
theorem d_Tree_weighRules_80 : decode prog_9_method_8_code 80 = .ok (.iload 5, 2) := by decide +kernel
theorem d_Tree_weighRules_82 : decode prog_9_method_8_code 82 = .ok (.iconst 0, 1) := by decide +kernel
theorem d_Tree_weighRules_83 : decode prog_9_method_8_code 83 = .ok (.iconst 0, 1) := by decide +kernel
theorem d_Tree_weighRules_84 : decode prog_9_method_8_code 84 = .ok (.iconst 0, 1) := by decide +kernel
theorem d_Tree_weighRules_85 : decode prog_9_method_8_code 85 = .ok (.iconst 0, 1) := by decide +kernel
theorem d_Tree_weighRules_86 : decode prog_9_method_8_code 86 = .ok (.ldc2_w 65, 3) := by decide +kernel
theorem d_Tree_weighRules_89 : decode prog_9_method_8_code 89 = .ok (.invokevirtual 150, 3) := by decide +kernel
theorem d_Tree_weighRules_92 : decode prog_9_method_8_code 92 = .ok (.ladd, 1) := by decide +kernel
theorem d_Tree_weighRules_93 : decode prog_9_method_8_code 93 = .ok (.lastore, 1) := by decide +kernel
theorem d_Tree_weighRules_94 : decode prog_9_method_8_code 94 = .ok (.iinc 5 1, 3) := by decide +kernel
theorem d_Tree_weighRules_97 : decode prog_9_method_8_code 97 = .ok (.goto (-43), 3) := by decide +kernel
theorem d_Tree_weighRules_100 : decode prog_9_method_8_code 100 = .ok (.iinc 4 1, 3) := by decide +kernel
theorem d_Tree_weighRules_103 : decode prog_9_method_8_code 103 = .ok (.goto (-80), 3) := by decide +kernel
theorem d_Tree_weighRules_106 : decode prog_9_method_8_code 106 = .ok (.aload_n 0, 1) := by decide +kernel
theorem d_Tree_weighRules_107 : decode prog_9_method_8_code 107 = .ok (.iconst 0, 1) := by decide +kernel
theorem d_Tree_weighRules_108 : decode prog_9_method_8_code 108 = .ok (.putfield 154, 3) := by decide +kernel
theorem d_Tree_weighRules_111 : decode prog_9_method_8_code 111 = .ok (.aload_n 0, 1) := by decide +kernel
theorem d_Tree_weighRules_112 : decode prog_9_method_8_code 112 = .ok (.aload_n 0, 1) := by decide +kernel
theorem d_Tree_weighRules_113 : decode prog_9_method_8_code 113 = .ok (.getfield 33, 3) := by decide +kernel
theorem d_Tree_weighRules_116 : decode prog_9_method_8_code 116 = .ok (.iconst 0, 1) := by decide +kernel
theorem d_Tree_weighRules_117 : decode prog_9_method_8_code 117 = .ok (.laload, 1) := by decide +kernel
theorem d_Tree_weighRules_118 : decode prog_9_method_8_code 118 = .ok (.putfield 67, 3) := by decide +kernel
theorem d_Tree_weighRules_121 : decode prog_9_method_8_code 121 = .ok (.iconst 1, 1) := by decide +kernel
theorem d_Tree_weighRules_122 : decode prog_9_method_8_code 122 = .ok (.istore 4, 2) := by decide +kernel
theorem d_Tree_weighRules_124 : decode prog_9_method_8_code 124 = .ok (.iload 4, 2) := by decide +kernel
theorem d_Tree_weighRules_126 : decode prog_9_method_8_code 126 = .ok (.iload_n 3, 1) := by decide +kernel
theorem d_Tree_weighRules_127 : decode prog_9_method_8_code 127 = .ok (.if_icmp .ge 41, 3) := by decide +kernel
theorem d_Tree_weighRules_130 : decode prog_9_method_8_code 130 = .ok (.aload_n 0, 1) := by decide +kernel
theorem d_Tree_weighRules_131 : decode prog_9_method_8_code 131 = .ok (.getfield 33, 3) := by decide +kernel
theorem d_Tree_weighRules_134 : decode prog_9_method_8_code 134 = .ok (.iload 4, 2) := by decide +kernel
theorem d_Tree_weighRules_136 : decode prog_9_method_8_code 136 = .ok (.laload, 1) := by decide +kernel
theorem d_Tree_weighRules_137 : decode prog_9_method_8_code 137 = .ok (.aload_n 0, 1) := by decide +kernel
theorem d_Tree_weighRules_138 : decode prog_9_method_8_code 138 = .ok (.getfield 67, 3) := by decide +kernel
theorem d_Tree_weighRules_141 : decode prog_9_method_8_code 141 = .ok (.lcmp, 1) := by decide +kernel
theorem d_Tree_weighRules_142 : decode prog_9_method_8_code 142 = .ok (.ifCond .le 20, 3) := by decide +kernel
theorem d_Tree_weighRules_145 : decode prog_9_method_8_code 145 = .ok (.aload_n 0, 1) := by decide +kernel
theorem d_Tree_weighRules_146 : decode prog_9_method_8_code 146 = .ok (.iload 4, 2) := by decide +kernel
theorem d_Tree_weighRules_148 : decode prog_9_method_8_code 148 = .ok (.putfield 154, 3) := by decide +kernel
theorem d_Tree_weighRules_151 : decode prog_9_method_8_code 151 = .ok (.aload_n 0, 1) := by decide +kernel
theorem d_Tree_weighRules_152 : decode prog_9_method_8_code 152 = .ok (.aload_n 0, 1) := by decide +kernel
theorem d_Tree_weighRules_153 : decode prog_9_method_8_code 153 = .ok (.getfield 33, 3) := by decide +kernel
theorem d_Tree_weighRules_156 : decode prog_9_method_8_code 156 = .ok (.iload 4, 2) := by decide +kernel
theorem d_Tree_weighRules_158 : decode prog_9_method_8_code 158 = .ok (.laload, 1) := by decide +kernel
theorem d_Tree_weighRules_159 : decode prog_9_method_8_code 159 = .ok (.putfield 67, 3) := by decide +kernel
theorem d_Tree_weighRules_162 : decode prog_9_method_8_code 162 = .ok (.iinc 4 1, 3) := by decide +kernel
theorem d_Tree_weighRules_165 : decode prog_9_method_8_code 165 = .ok (.goto (-41), 3) := by decide +kernel
theorem d_Tree_weighRules_168 : decode prog_9_method_8_code 168 = .ok (.return_, 1) := by decide +kernel
theorem d_Tree_winnerLeaves_0 : decode prog_9_method_4_code 0 = .ok (.aload_n 0, 1) := by decide +kernel
theorem d_Tree_winnerLeaves_1 : decode prog_9_method_4_code 1 = .ok (.getfield 67, 3) := by decide +kernel
theorem d_Tree_winnerLeaves_4 : decode prog_9_method_4_code 4 = .ok (.iload_n 1, 1) := by decide +kernel
theorem d_Tree_winnerLeaves_5 : decode prog_9_method_4_code 5 = .ok (.i2l, 1) := by decide +kernel
theorem d_Tree_winnerLeaves_6 : decode prog_9_method_4_code 6 = .ok (.lmul, 1) := by decide +kernel
theorem d_Tree_winnerLeaves_7 : decode prog_9_method_4_code 7 = .ok (.invokestatic 40, 3) := by decide +kernel
theorem d_Tree_winnerLeaves_10 : decode prog_9_method_4_code 10 = .ok (.ireturn, 1) := by decide +kernel
theorem d_BH_best_0 : decode prog_1_method_16_code 0 = .ok (.iload_n 1, 1) := by decide +kernel
theorem d_BH_best_1 : decode prog_1_method_16_code 1 = .ok (.ifCond .eq 10, 3) := by decide +kernel
theorem d_BH_best_4 : decode prog_1_method_16_code 4 = .ok (.iload_n 1, 1) := by decide +kernel
theorem d_BH_best_5 : decode prog_1_method_16_code 5 = .ok (.iconst 1, 1) := by decide +kernel
theorem d_BH_best_6 : decode prog_1_method_16_code 6 = .ok (.if_icmp .eq 5, 3) := by decide +kernel
theorem d_BH_best_9 : decode prog_1_method_16_code 9 = .ok (.iconst (-1), 1) := by decide +kernel
theorem d_BH_best_10 : decode prog_1_method_16_code 10 = .ok (.ireturn, 1) := by decide +kernel
theorem d_BH_best_11 : decode prog_1_method_16_code 11 = .ok (.aload_n 0, 1) := by decide +kernel
theorem d_BH_best_12 : decode prog_1_method_16_code 12 = .ok (.getfield 47, 3) := by decide +kernel
theorem d_BH_best_15 : decode prog_1_method_16_code 15 = .ok (.aload_n 0, 1) := by decide +kernel
theorem d_BH_best_16 : decode prog_1_method_16_code 16 = .ok (.getfield 54, 3) := by decide +kernel
theorem d_BH_best_19 : decode prog_1_method_16_code 19 = .ok (.aload_n 0, 1) := by decide +kernel
theorem d_BH_best_20 : decode prog_1_method_16_code 20 = .ok (.getfield 26, 3) := by decide +kernel
theorem d_BH_best_23 : decode prog_1_method_16_code 23 = .ok (.getfield 114, 3) := by decide +kernel
theorem d_BH_best_26 : decode prog_1_method_16_code 26 = .ok (.invokevirtual 199, 3) := by decide +kernel
theorem d_BH_best_29 : decode prog_1_method_16_code 29 = .ok (.iload_n 1, 1) := by decide +kernel
theorem d_BH_best_30 : decode prog_1_method_16_code 30 = .ok (.ifCond .ne 13, 3) := by decide +kernel
theorem d_BH_best_33 : decode prog_1_method_16_code 33 = .ok (.aload_n 0, 1) := by decide +kernel
theorem d_BH_best_34 : decode prog_1_method_16_code 34 = .ok (.getfield 47, 3) := by decide +kernel
theorem d_BH_best_37 : decode prog_1_method_16_code 37 = .ok (.getfield 203, 3) := by decide +kernel
theorem d_BH_best_40 : decode prog_1_method_16_code 40 = .ok (.goto 19, 3) := by decide +kernel
theorem d_BH_best_43 : decode prog_1_method_16_code 43 = .ok (.aload_n 0, 1) := by decide +kernel
theorem d_BH_best_44 : decode prog_1_method_16_code 44 = .ok (.getfield 47, 3) := by decide +kernel
theorem d_BH_best_47 : decode prog_1_method_16_code 47 = .ok (.aload_n 0, 1) := by decide +kernel
theorem d_BH_best_48 : decode prog_1_method_16_code 48 = .ok (.getfield 26, 3) := by decide +kernel
theorem d_BH_best_51 : decode prog_1_method_16_code 51 = .ok (.getfield 114, 3) := by decide +kernel
theorem d_BH_best_54 : decode prog_1_method_16_code 54 = .ok (.iconst 2, 1) := by decide +kernel
theorem d_BH_best_55 : decode prog_1_method_16_code 55 = .ok (.iaload, 1) := by decide +kernel
theorem d_BH_best_56 : decode prog_1_method_16_code 56 = .ok (.invokevirtual 206, 3) := by decide +kernel
theorem d_BH_best_59 : decode prog_1_method_16_code 59 = .ok (.ireturn, 1) := by decide +kernel
theorem d_Tree_weighBells_0 : decode prog_9_method_9_code 0 = .ok (.aload_n 0, 1) := by decide +kernel
theorem d_Tree_weighBells_1 : decode prog_9_method_9_code 1 = .ok (.iconst (-1), 1) := by decide +kernel
theorem d_Tree_weighBells_2 : decode prog_9_method_9_code 2 = .ok (.putfield 154, 3) := by decide +kernel
theorem d_Tree_weighBells_5 : decode prog_9_method_9_code 5 = .ok (.aload_n 0, 1) := by decide +kernel
theorem d_Tree_weighBells_6 : decode prog_9_method_9_code 6 = .ok (.ldc2_w 148, 3) := by decide +kernel
theorem d_Tree_weighBells_9 : decode prog_9_method_9_code 9 = .ok (.putfield 67, 3) := by decide +kernel
theorem d_Tree_weighBells_12 : decode prog_9_method_9_code 12 = .ok (.iconst 1, 1) := by decide +kernel
theorem d_Tree_weighBells_13 : decode prog_9_method_9_code 13 = .ok (.istore_n 3, 1) := by decide +kernel
theorem d_Tree_weighBells_14 : decode prog_9_method_9_code 14 = .ok (.iload_n 3, 1) := by decide +kernel
theorem d_Tree_weighBells_15 : decode prog_9_method_9_code 15 = .ok (.bipush 99, 2) := by decide +kernel
theorem d_Tree_weighBells_17 : decode prog_9_method_9_code 17 = .ok (.if_icmp .gt 98, 3) := by decide +kernel
theorem d_Tree_weighBells_20 : decode prog_9_method_9_code 20 = .ok (.lconst 0, 1) := by decide +kernel
theorem d_Tree_weighBells_21 : decode prog_9_method_9_code 21 = .ok (.lstore 4, 2) := by decide +kernel
theorem d_Tree_weighBells_23 : decode prog_9_method_9_code 23 = .ok (.iconst 0, 1) := by decide +kernel
theorem d_Tree_weighBells_24 : decode prog_9_method_9_code 24 = .ok (.istore 6, 2) := by decide +kernel
theorem d_Tree_weighBells_26 : decode prog_9_method_9_code 26 = .ok (.iload 6, 2) := by decide +kernel
theorem d_Tree_weighBells_28 : decode prog_9_method_9_code 28 = .ok (.aload_n 1, 1) := by decide +kernel
theorem d_Tree_weighBells_29 : decode prog_9_method_9_code 29 = .ok (.getfield 138, 3) := by decide +kernel
theorem d_Tree_weighBells_32 : decode prog_9_method_9_code 32 = .ok (.if_icmp .ge 56, 3) := by decide +kernel
theorem d_Tree_weighBells_35 : decode prog_9_method_9_code 35 = .ok (.aload_n 0, 1) := by decide +kernel
theorem d_Tree_weighBells_36 : decode prog_9_method_9_code 36 = .ok (.getfield 14, 3) := by decide +kernel
theorem d_Tree_weighBells_39 : decode prog_9_method_9_code 39 = .ok (.aload_n 1, 1) := by decide +kernel
theorem d_Tree_weighBells_40 : decode prog_9_method_9_code 40 = .ok (.iload 6, 2) := by decide +kernel
theorem d_Tree_weighBells_42 : decode prog_9_method_9_code 42 = .ok (.aload_n 2, 1) := by decide +kernel
theorem d_Tree_weighBells_43 : decode prog_9_method_9_code 43 = .ok (.invokevirtual 141, 3) := by decide +kernel
theorem d_Tree_weighBells_46 : decode prog_9_method_9_code 46 = .ok (.aload_n 0, 1) := by decide +kernel
theorem d_Tree_weighBells_47 : decode prog_9_method_9_code 47 = .ok (.getfield 14, 3) := by decide +kernel
theorem d_Tree_weighBells_50 : decode prog_9_method_9_code 50 = .ok (.iload_n 3, 1) := by decide +kernel
theorem d_Tree_weighBells_51 : decode prog_9_method_9_code 51 = .ok (.putfield 157, 3) := by decide +kernel
theorem d_Tree_weighBells_54 : decode prog_9_method_9_code 54 = .ok (.aload_n 0, 1) := by decide +kernel
theorem d_Tree_weighBells_55 : decode prog_9_method_9_code 55 = .ok (.getfield 25, 3) := by decide +kernel
theorem d_Tree_weighBells_58 : decode prog_9_method_9_code 58 = .ok (.ldc2_w 148, 3) := by decide +kernel
theorem d_Tree_weighBells_61 : decode prog_9_method_9_code 61 = .ok (.invokestatic 132, 3) := by decide +kernel
theorem d_Tree_weighBells_64 : decode prog_9_method_9_code 64 = .ok (.lload 4, 2) := by decide +kernel
theorem d_Tree_weighBells_66 : decode prog_9_method_9_code 66 = .ok (.aload_n 0, 1) := by decide +kernel
theorem d_Tree_weighBells_67 : decode prog_9_method_9_code 67 = .ok (.aload_n 1, 1) := by decide +kernel
theorem d_Tree_weighBells_68 : decode prog_9_method_9_code 68 = .ok (.iconst 0, 1) := by decide +kernel
theorem d_Tree_weighBells_69 : decode prog_9_method_9_code 69 = .ok (.iconst 0, 1) := by decide +kernel
theorem d_Tree_weighBells_70 : decode prog_9_method_9_code 70 = .ok (.iconst 0, 1) := by decide +kernel
theorem d_Tree_weighBells_71 : decode prog_9_method_9_code 71 = .ok (.iconst 0, 1) := by decide +kernel
theorem d_Tree_weighBells_72 : decode prog_9_method_9_code 72 = .ok (.iconst 0, 1) := by decide +kernel
theorem d_Tree_weighBells_73 : decode prog_9_method_9_code 73 = .ok (.ldc2_w 65, 3) := by decide +kernel
theorem d_Tree_weighBells_76 : decode prog_9_method_9_code 76 = .ok (.invokevirtual 150, 3) := by decide +kernel
theorem d_Tree_weighBells_79 : decode prog_9_method_9_code 79 = .ok (.ladd, 1) := by decide +kernel
theorem d_Tree_weighBells_80 : decode prog_9_method_9_code 80 = .ok (.lstore 4, 2) := by decide +kernel
theorem d_Tree_weighBells_82 : decode prog_9_method_9_code 82 = .ok (.iinc 6 1, 3) := by decide +kernel
theorem d_Tree_weighBells_85 : decode prog_9_method_9_code 85 = .ok (.goto (-59), 3) := by decide +kernel
theorem d_Tree_weighBells_88 : decode prog_9_method_9_code 88 = .ok (.lload 4, 2) := by decide +kernel
theorem d_Tree_weighBells_90 : decode prog_9_method_9_code 90 = .ok (.aload_n 0, 1) := by decide +kernel
theorem d_Tree_weighBells_91 : decode prog_9_method_9_code 91 = .ok (.getfield 67, 3) := by decide +kernel
theorem d_Tree_weighBells_94 : decode prog_9_method_9_code 94 = .ok (.lcmp, 1) := by decide +kernel
theorem d_Tree_weighBells_95 : decode prog_9_method_9_code 95 = .ok (.ifCond .le 14, 3) := by decide +kernel
theorem d_Tree_weighBells_98 : decode prog_9_method_9_code 98 = .ok (.aload_n 0, 1) := by decide +kernel
theorem d_Tree_weighBells_99 : decode prog_9_method_9_code 99 = .ok (.iload_n 3, 1) := by decide +kernel
theorem d_Tree_weighBells_100 : decode prog_9_method_9_code 100 = .ok (.putfield 154, 3) := by decide +kernel
theorem d_Tree_weighBells_103 : decode prog_9_method_9_code 103 = .ok (.aload_n 0, 1) := by decide +kernel
theorem d_Tree_weighBells_104 : decode prog_9_method_9_code 104 = .ok (.lload 4, 2) := by decide +kernel
theorem d_Tree_weighBells_106 : decode prog_9_method_9_code 106 = .ok (.putfield 67, 3) := by decide +kernel
theorem d_Tree_weighBells_109 : decode prog_9_method_9_code 109 = .ok (.iinc 3 1, 3) := by decide +kernel
theorem d_Tree_weighBells_112 : decode prog_9_method_9_code 112 = .ok (.goto (-98), 3) := by decide +kernel
theorem d_Tree_weighBells_115 : decode prog_9_method_9_code 115 = .ok (.return_, 1) := by decide +kernel
theorem d_BH_honest_0 : decode prog_1_method_17_code 0 = .ok (.iload_n 1, 1) := by decide +kernel
theorem d_BH_honest_1 : decode prog_1_method_17_code 1 = .ok (.ifCond .eq 10, 3) := by decide +kernel
theorem d_BH_honest_4 : decode prog_1_method_17_code 4 = .ok (.iload_n 1, 1) := by decide +kernel
theorem d_BH_honest_5 : decode prog_1_method_17_code 5 = .ok (.iconst 1, 1) := by decide +kernel
theorem d_BH_honest_6 : decode prog_1_method_17_code 6 = .ok (.if_icmp .eq 5, 3) := by decide +kernel
theorem d_BH_honest_9 : decode prog_1_method_17_code 9 = .ok (.iconst (-1), 1) := by decide +kernel
theorem d_BH_honest_10 : decode prog_1_method_17_code 10 = .ok (.ireturn, 1) := by decide +kernel
theorem d_BH_honest_11 : decode prog_1_method_17_code 11 = .ok (.aload_n 0, 1) := by decide +kernel
theorem d_BH_honest_12 : decode prog_1_method_17_code 12 = .ok (.getfield 47, 3) := by decide +kernel
theorem d_BH_honest_15 : decode prog_1_method_17_code 15 = .ok (.aload_n 0, 1) := by decide +kernel
theorem d_BH_honest_16 : decode prog_1_method_17_code 16 = .ok (.getfield 54, 3) := by decide +kernel
theorem d_BH_honest_19 : decode prog_1_method_17_code 19 = .ok (.aload_n 0, 1) := by decide +kernel
theorem d_BH_honest_20 : decode prog_1_method_17_code 20 = .ok (.getfield 26, 3) := by decide +kernel
theorem d_BH_honest_23 : decode prog_1_method_17_code 23 = .ok (.getfield 114, 3) := by decide +kernel
theorem d_BH_honest_26 : decode prog_1_method_17_code 26 = .ok (.invokevirtual 209, 3) := by decide +kernel
theorem d_BH_honest_29 : decode prog_1_method_17_code 29 = .ok (.iload_n 1, 1) := by decide +kernel
theorem d_BH_honest_30 : decode prog_1_method_17_code 30 = .ok (.ifCond .ne 13, 3) := by decide +kernel
theorem d_BH_honest_33 : decode prog_1_method_17_code 33 = .ok (.aload_n 0, 1) := by decide +kernel
theorem d_BH_honest_34 : decode prog_1_method_17_code 34 = .ok (.getfield 47, 3) := by decide +kernel
theorem d_BH_honest_37 : decode prog_1_method_17_code 37 = .ok (.getfield 203, 3) := by decide +kernel
theorem d_BH_honest_40 : decode prog_1_method_17_code 40 = .ok (.goto 19, 3) := by decide +kernel
theorem d_BH_honest_43 : decode prog_1_method_17_code 43 = .ok (.aload_n 0, 1) := by decide +kernel
theorem d_BH_honest_44 : decode prog_1_method_17_code 44 = .ok (.getfield 47, 3) := by decide +kernel
theorem d_BH_honest_47 : decode prog_1_method_17_code 47 = .ok (.aload_n 0, 1) := by decide +kernel
theorem d_BH_honest_48 : decode prog_1_method_17_code 48 = .ok (.getfield 26, 3) := by decide +kernel
theorem d_BH_honest_51 : decode prog_1_method_17_code 51 = .ok (.getfield 114, 3) := by decide +kernel
theorem d_BH_honest_54 : decode prog_1_method_17_code 54 = .ok (.iconst 2, 1) := by decide +kernel
theorem d_BH_honest_55 : decode prog_1_method_17_code 55 = .ok (.iaload, 1) := by decide +kernel
theorem d_BH_honest_56 : decode prog_1_method_17_code 56 = .ok (.invokevirtual 206, 3) := by decide +kernel
theorem d_BH_honest_59 : decode prog_1_method_17_code 59 = .ok (.ireturn, 1) := by decide +kernel
theorem d_BH_wonPairs_0 : decode prog_1_method_41_code 0 = .ok (.iconst 0, 1) := by decide +kernel
theorem d_BH_wonPairs_1 : decode prog_1_method_41_code 1 = .ok (.istore 4, 2) := by decide +kernel
theorem d_BH_wonPairs_3 : decode prog_1_method_41_code 3 = .ok (.iconst 0, 1) := by decide +kernel
theorem d_BH_wonPairs_4 : decode prog_1_method_41_code 4 = .ok (.istore 5, 2) := by decide +kernel
theorem d_BH_wonPairs_6 : decode prog_1_method_41_code 6 = .ok (.iload 5, 2) := by decide +kernel
theorem d_BH_wonPairs_8 : decode prog_1_method_41_code 8 = .ok (.aload_n 0, 1) := by decide +kernel
theorem d_BH_wonPairs_9 : decode prog_1_method_41_code 9 = .ok (.getfield 54, 3) := by decide +kernel
theorem d_BH_wonPairs_12 : decode prog_1_method_41_code 12 = .ok (.iload_n 1, 1) := by decide +kernel
theorem d_BH_wonPairs_13 : decode prog_1_method_41_code 13 = .ok (.iconst 1, 1) := by decide +kernel
theorem d_BH_wonPairs_14 : decode prog_1_method_41_code 14 = .ok (.invokevirtual 150, 3) := by decide +kernel
theorem d_BH_wonPairs_17 : decode prog_1_method_41_code 17 = .ok (.if_icmp .gt 90, 3) := by decide +kernel
theorem d_BH_wonPairs_20 : decode prog_1_method_41_code 20 = .ok (.aload_n 0, 1) := by decide +kernel
theorem d_BH_wonPairs_21 : decode prog_1_method_41_code 21 = .ok (.getfield 54, 3) := by decide +kernel
theorem d_BH_wonPairs_24 : decode prog_1_method_41_code 24 = .ok (.iload_n 1, 1) := by decide +kernel
theorem d_BH_wonPairs_25 : decode prog_1_method_41_code 25 = .ok (.iconst 0, 1) := by decide +kernel
theorem d_BH_wonPairs_26 : decode prog_1_method_41_code 26 = .ok (.invokevirtual 150, 3) := by decide +kernel
theorem d_BH_wonPairs_29 : decode prog_1_method_41_code 29 = .ok (.iload 5, 2) := by decide +kernel
theorem d_BH_wonPairs_31 : decode prog_1_method_41_code 31 = .ok (.iconst 0, 1) := by decide +kernel
theorem d_BH_wonPairs_32 : decode prog_1_method_41_code 32 = .ok (.invokestatic 284, 3) := by decide +kernel
theorem d_BH_wonPairs_35 : decode prog_1_method_41_code 35 = .ok (.istore 6, 2) := by decide +kernel
theorem d_BH_wonPairs_37 : decode prog_1_method_41_code 37 = .ok (.iconst 0, 1) := by decide +kernel
theorem d_BH_wonPairs_38 : decode prog_1_method_41_code 38 = .ok (.istore 7, 2) := by decide +kernel
theorem d_BH_wonPairs_40 : decode prog_1_method_41_code 40 = .ok (.iload 7, 2) := by decide +kernel
theorem d_BH_wonPairs_42 : decode prog_1_method_41_code 42 = .ok (.aload_n 0, 1) := by decide +kernel
theorem d_BH_wonPairs_43 : decode prog_1_method_41_code 43 = .ok (.getfield 54, 3) := by decide +kernel
theorem d_BH_wonPairs_46 : decode prog_1_method_41_code 46 = .ok (.iload_n 2, 1) := by decide +kernel
theorem d_BH_wonPairs_47 : decode prog_1_method_41_code 47 = .ok (.iconst 1, 1) := by decide +kernel
theorem d_BH_wonPairs_48 : decode prog_1_method_41_code 48 = .ok (.invokevirtual 150, 3) := by decide +kernel
theorem d_BH_wonPairs_51 : decode prog_1_method_41_code 51 = .ok (.if_icmp .gt 50, 3) := by decide +kernel
theorem d_BH_wonPairs_54 : decode prog_1_method_41_code 54 = .ok (.aload_n 0, 1) := by decide +kernel
theorem d_BH_wonPairs_55 : decode prog_1_method_41_code 55 = .ok (.getfield 54, 3) := by decide +kernel
theorem d_BH_wonPairs_58 : decode prog_1_method_41_code 58 = .ok (.iload_n 2, 1) := by decide +kernel
theorem d_BH_wonPairs_59 : decode prog_1_method_41_code 59 = .ok (.iconst 0, 1) := by decide +kernel
theorem d_BH_wonPairs_60 : decode prog_1_method_41_code 60 = .ok (.invokevirtual 150, 3) := by decide +kernel
theorem d_BH_wonPairs_63 : decode prog_1_method_41_code 63 = .ok (.iload 7, 2) := by decide +kernel
theorem d_BH_wonPairs_65 : decode prog_1_method_41_code 65 = .ok (.iconst 0, 1) := by decide +kernel
theorem d_BH_wonPairs_66 : decode prog_1_method_41_code 66 = .ok (.invokestatic 284, 3) := by decide +kernel
theorem d_BH_wonPairs_69 : decode prog_1_method_41_code 69 = .ok (.istore 8, 2) := by decide +kernel
theorem d_BH_wonPairs_71 : decode prog_1_method_41_code 71 = .ok (.iload_n 3, 1) := by decide +kernel
theorem d_BH_wonPairs_72 : decode prog_1_method_41_code 72 = .ok (.ifCond .ne 13, 3) := by decide +kernel
theorem d_BH_wonPairs_75 : decode prog_1_method_41_code 75 = .ok (.iload 6, 2) := by decide +kernel
theorem d_BH_wonPairs_77 : decode prog_1_method_41_code 77 = .ok (.iload 8, 2) := by decide +kernel
theorem d_BH_wonPairs_79 : decode prog_1_method_41_code 79 = .ok (.if_icmp .le 16, 3) := by decide +kernel
theorem d_BH_wonPairs_82 : decode prog_1_method_41_code 82 = .ok (.goto 10, 3) := by decide +kernel
theorem d_BH_wonPairs_85 : decode prog_1_method_41_code 85 = .ok (.iload 6, 2) := by decide +kernel
theorem d_BH_wonPairs_87 : decode prog_1_method_41_code 87 = .ok (.iload 8, 2) := by decide +kernel
theorem d_BH_wonPairs_89 : decode prog_1_method_41_code 89 = .ok (.if_icmp .ne 6, 3) := by decide +kernel
theorem d_BH_wonPairs_92 : decode prog_1_method_41_code 92 = .ok (.iinc 4 1, 3) := by decide +kernel
theorem d_BH_wonPairs_95 : decode prog_1_method_41_code 95 = .ok (.iinc 7 1, 3) := by decide +kernel
theorem d_BH_wonPairs_98 : decode prog_1_method_41_code 98 = .ok (.goto (-58), 3) := by decide +kernel
theorem d_BH_wonPairs_101 : decode prog_1_method_41_code 101 = .ok (.iinc 5 1, 3) := by decide +kernel
theorem d_BH_wonPairs_104 : decode prog_1_method_41_code 104 = .ok (.goto (-98), 3) := by decide +kernel
theorem d_BH_wonPairs_107 : decode prog_1_method_41_code 107 = .ok (.iload 4, 2) := by decide +kernel
theorem d_BH_wonPairs_109 : decode prog_1_method_41_code 109 = .ok (.ireturn, 1) := by decide +kernel
theorem d_BH_bet_0 : decode prog_1_method_18_code 0 = .ok (.aload_n 0, 1) := by decide +kernel
theorem d_BH_bet_1 : decode prog_1_method_18_code 1 = .ok (.iload_n 1, 1) := by decide +kernel
theorem d_BH_bet_2 : decode prog_1_method_18_code 2 = .ok (.invokevirtual 144, 3) := by decide +kernel
theorem d_BH_bet_5 : decode prog_1_method_18_code 5 = .ok (.ifCond .eq 25, 3) := by decide +kernel
theorem d_BH_bet_8 : decode prog_1_method_18_code 8 = .ok (.aload_n 0, 1) := by decide +kernel
theorem d_BH_bet_9 : decode prog_1_method_18_code 9 = .ok (.iload_n 2, 1) := by decide +kernel
theorem d_BH_bet_10 : decode prog_1_method_18_code 10 = .ok (.invokevirtual 144, 3) := by decide +kernel
theorem d_BH_bet_13 : decode prog_1_method_18_code 13 = .ok (.ifCond .eq 17, 3) := by decide +kernel
theorem d_BH_bet_16 : decode prog_1_method_18_code 16 = .ok (.iload_n 1, 1) := by decide +kernel
theorem d_BH_bet_17 : decode prog_1_method_18_code 17 = .ok (.iload_n 2, 1) := by decide +kernel
theorem d_BH_bet_18 : decode prog_1_method_18_code 18 = .ok (.if_icmp .eq 12, 3) := by decide +kernel
theorem d_BH_bet_21 : decode prog_1_method_18_code 21 = .ok (.iload_n 3, 1) := by decide +kernel
theorem d_BH_bet_22 : decode prog_1_method_18_code 22 = .ok (.ifCond .eq 10, 3) := by decide +kernel
theorem d_BH_bet_25 : decode prog_1_method_18_code 25 = .ok (.iload_n 3, 1) := by decide +kernel
theorem d_BH_bet_26 : decode prog_1_method_18_code 26 = .ok (.iconst 1, 1) := by decide +kernel
theorem d_BH_bet_27 : decode prog_1_method_18_code 27 = .ok (.if_icmp .eq 5, 3) := by decide +kernel
theorem d_BH_bet_30 : decode prog_1_method_18_code 30 = .ok (.iconst (-1), 1) := by decide +kernel
theorem d_BH_bet_31 : decode prog_1_method_18_code 31 = .ok (.ireturn, 1) := by decide +kernel
theorem d_BH_bet_32 : decode prog_1_method_18_code 32 = .ok (.aload_n 0, 1) := by decide +kernel
theorem d_BH_bet_33 : decode prog_1_method_18_code 33 = .ok (.getfield 54, 3) := by decide +kernel
theorem d_BH_bet_36 : decode prog_1_method_18_code 36 = .ok (.iload_n 1, 1) := by decide +kernel
theorem d_BH_bet_37 : decode prog_1_method_18_code 37 = .ok (.iconst 1, 1) := by decide +kernel
theorem d_BH_bet_38 : decode prog_1_method_18_code 38 = .ok (.invokevirtual 150, 3) := by decide +kernel
theorem d_BH_bet_41 : decode prog_1_method_18_code 41 = .ok (.iconst 1, 1) := by decide +kernel
theorem d_BH_bet_42 : decode prog_1_method_18_code 42 = .ok (.iadd, 1) := by decide +kernel
theorem d_BH_bet_43 : decode prog_1_method_18_code 43 = .ok (.aload_n 0, 1) := by decide +kernel
theorem d_BH_bet_44 : decode prog_1_method_18_code 44 = .ok (.getfield 54, 3) := by decide +kernel
theorem d_BH_bet_47 : decode prog_1_method_18_code 47 = .ok (.iload_n 2, 1) := by decide +kernel
theorem d_BH_bet_48 : decode prog_1_method_18_code 48 = .ok (.iconst 1, 1) := by decide +kernel
theorem d_BH_bet_49 : decode prog_1_method_18_code 49 = .ok (.invokevirtual 150, 3) := by decide +kernel
theorem d_BH_bet_52 : decode prog_1_method_18_code 52 = .ok (.iconst 1, 1) := by decide +kernel
theorem d_BH_bet_53 : decode prog_1_method_18_code 53 = .ok (.iadd, 1) := by decide +kernel
theorem d_BH_bet_54 : decode prog_1_method_18_code 54 = .ok (.imul, 1) := by decide +kernel
theorem d_BH_bet_55 : decode prog_1_method_18_code 55 = .ok (.istore 4, 2) := by decide +kernel
theorem d_BH_bet_57 : decode prog_1_method_18_code 57 = .ok (.iload 4, 2) := by decide +kernel
theorem d_BH_bet_59 : decode prog_1_method_18_code 59 = .ok (.ifCond .gt 5, 3) := by decide +kernel
theorem d_BH_bet_62 : decode prog_1_method_18_code 62 = .ok (.iconst (-1), 1) := by decide +kernel
theorem d_BH_bet_63 : decode prog_1_method_18_code 63 = .ok (.ireturn, 1) := by decide +kernel
theorem d_BH_bet_64 : decode prog_1_method_18_code 64 = .ok (.sipush 1000, 3) := by decide +kernel
theorem d_BH_bet_67 : decode prog_1_method_18_code 67 = .ok (.aload_n 0, 1) := by decide +kernel
theorem d_BH_bet_68 : decode prog_1_method_18_code 68 = .ok (.iload_n 1, 1) := by decide +kernel
theorem d_BH_bet_69 : decode prog_1_method_18_code 69 = .ok (.iload_n 2, 1) := by decide +kernel
theorem d_BH_bet_70 : decode prog_1_method_18_code 70 = .ok (.iload_n 3, 1) := by decide +kernel
theorem d_BH_bet_71 : decode prog_1_method_18_code 71 = .ok (.invokevirtual 212, 3) := by decide +kernel
theorem d_BH_bet_74 : decode prog_1_method_18_code 74 = .ok (.imul, 1) := by decide +kernel
theorem d_BH_bet_75 : decode prog_1_method_18_code 75 = .ok (.iload 4, 2) := by decide +kernel
theorem d_BH_bet_77 : decode prog_1_method_18_code 77 = .ok (.idiv, 1) := by decide +kernel
theorem d_BH_bet_78 : decode prog_1_method_18_code 78 = .ok (.ireturn, 1) := by decide +kernel
theorem d_Book_addAct_0 : decode prog_2_method_3_code 0 = .ok (.aload_n 0, 1) := by decide +kernel
theorem d_Book_addAct_1 : decode prog_2_method_3_code 1 = .ok (.getfield 57, 3) := by decide +kernel
theorem d_Book_addAct_4 : decode prog_2_method_3_code 4 = .ok (.bipush 20, 2) := by decide +kernel
theorem d_Book_addAct_6 : decode prog_2_method_3_code 6 = .ok (.if_icmp .lt 54, 3) := by decide +kernel
theorem d_Book_addAct_9 : decode prog_2_method_3_code 9 = .ok (.aload_n 0, 1) := by decide +kernel
theorem d_Book_addAct_10 : decode prog_2_method_3_code 10 = .ok (.getfield 19, 3) := by decide +kernel
theorem d_Book_addAct_13 : decode prog_2_method_3_code 13 = .ok (.iconst 1, 1) := by decide +kernel
theorem d_Book_addAct_14 : decode prog_2_method_3_code 14 = .ok (.aload_n 0, 1) := by decide +kernel
theorem d_Book_addAct_15 : decode prog_2_method_3_code 15 = .ok (.getfield 19, 3) := by decide +kernel
theorem d_Book_addAct_18 : decode prog_2_method_3_code 18 = .ok (.iconst 0, 1) := by decide +kernel
theorem d_Book_addAct_19 : decode prog_2_method_3_code 19 = .ok (.bipush 19, 2) := by decide +kernel
theorem d_Book_addAct_21 : decode prog_2_method_3_code 21 = .ok (.invokestatic 34, 3) := by decide +kernel
theorem d_Book_addAct_24 : decode prog_2_method_3_code 24 = .ok (.aload_n 0, 1) := by decide +kernel
theorem d_Book_addAct_25 : decode prog_2_method_3_code 25 = .ok (.getfield 22, 3) := by decide +kernel
theorem d_Book_addAct_28 : decode prog_2_method_3_code 28 = .ok (.iconst 1, 1) := by decide +kernel
theorem d_Book_addAct_29 : decode prog_2_method_3_code 29 = .ok (.aload_n 0, 1) := by decide +kernel
theorem d_Book_addAct_30 : decode prog_2_method_3_code 30 = .ok (.getfield 22, 3) := by decide +kernel
theorem d_Book_addAct_33 : decode prog_2_method_3_code 33 = .ok (.iconst 0, 1) := by decide +kernel
theorem d_Book_addAct_34 : decode prog_2_method_3_code 34 = .ok (.bipush 19, 2) := by decide +kernel
theorem d_Book_addAct_36 : decode prog_2_method_3_code 36 = .ok (.invokestatic 34, 3) := by decide +kernel
theorem d_Book_addAct_39 : decode prog_2_method_3_code 39 = .ok (.aload_n 0, 1) := by decide +kernel
theorem d_Book_addAct_40 : decode prog_2_method_3_code 40 = .ok (.getfield 25, 3) := by decide +kernel
theorem d_Book_addAct_43 : decode prog_2_method_3_code 43 = .ok (.iconst 1, 1) := by decide +kernel
theorem d_Book_addAct_44 : decode prog_2_method_3_code 44 = .ok (.aload_n 0, 1) := by decide +kernel
theorem d_Book_addAct_45 : decode prog_2_method_3_code 45 = .ok (.getfield 25, 3) := by decide +kernel
theorem d_Book_addAct_48 : decode prog_2_method_3_code 48 = .ok (.iconst 0, 1) := by decide +kernel
theorem d_Book_addAct_49 : decode prog_2_method_3_code 49 = .ok (.bipush 19, 2) := by decide +kernel
theorem d_Book_addAct_51 : decode prog_2_method_3_code 51 = .ok (.invokestatic 34, 3) := by decide +kernel
theorem d_Book_addAct_54 : decode prog_2_method_3_code 54 = .ok (.aload_n 0, 1) := by decide +kernel
theorem d_Book_addAct_55 : decode prog_2_method_3_code 55 = .ok (.bipush 19, 2) := by decide +kernel
theorem d_Book_addAct_57 : decode prog_2_method_3_code 57 = .ok (.putfield 57, 3) := by decide +kernel
theorem d_Book_addAct_60 : decode prog_2_method_3_code 60 = .ok (.aload_n 0, 1) := by decide +kernel
theorem d_Book_addAct_61 : decode prog_2_method_3_code 61 = .ok (.getfield 19, 3) := by decide +kernel
theorem d_Book_addAct_64 : decode prog_2_method_3_code 64 = .ok (.aload_n 0, 1) := by decide +kernel
theorem d_Book_addAct_65 : decode prog_2_method_3_code 65 = .ok (.getfield 57, 3) := by decide +kernel
theorem d_Book_addAct_68 : decode prog_2_method_3_code 68 = .ok (.iload_n 1, 1) := by decide +kernel
theorem d_Book_addAct_69 : decode prog_2_method_3_code 69 = .ok (.iastore, 1) := by decide +kernel
theorem d_Book_addAct_70 : decode prog_2_method_3_code 70 = .ok (.aload_n 0, 1) := by decide +kernel
theorem d_Book_addAct_71 : decode prog_2_method_3_code 71 = .ok (.getfield 22, 3) := by decide +kernel
theorem d_Book_addAct_74 : decode prog_2_method_3_code 74 = .ok (.aload_n 0, 1) := by decide +kernel
theorem d_Book_addAct_75 : decode prog_2_method_3_code 75 = .ok (.getfield 57, 3) := by decide +kernel
theorem d_Book_addAct_78 : decode prog_2_method_3_code 78 = .ok (.iload_n 2, 1) := by decide +kernel
theorem d_Book_addAct_79 : decode prog_2_method_3_code 79 = .ok (.iastore, 1) := by decide +kernel
theorem d_Book_addAct_80 : decode prog_2_method_3_code 80 = .ok (.aload_n 0, 1) := by decide +kernel
theorem d_Book_addAct_81 : decode prog_2_method_3_code 81 = .ok (.getfield 25, 3) := by decide +kernel
theorem d_Book_addAct_84 : decode prog_2_method_3_code 84 = .ok (.aload_n 0, 1) := by decide +kernel
theorem d_Book_addAct_85 : decode prog_2_method_3_code 85 = .ok (.getfield 57, 3) := by decide +kernel
theorem d_Book_addAct_88 : decode prog_2_method_3_code 88 = .ok (.iconst 0, 1) := by decide +kernel
theorem d_Book_addAct_89 : decode prog_2_method_3_code 89 = .ok (.iastore, 1) := by decide +kernel
theorem d_Book_addAct_90 : decode prog_2_method_3_code 90 = .ok (.aload_n 0, 1) := by decide +kernel
theorem d_Book_addAct_91 : decode prog_2_method_3_code 91 = .ok (.dup, 1) := by decide +kernel
theorem d_Book_addAct_92 : decode prog_2_method_3_code 92 = .ok (.getfield 57, 3) := by decide +kernel
theorem d_Book_addAct_95 : decode prog_2_method_3_code 95 = .ok (.iconst 1, 1) := by decide +kernel
theorem d_Book_addAct_96 : decode prog_2_method_3_code 96 = .ok (.iadd, 1) := by decide +kernel
theorem d_Book_addAct_97 : decode prog_2_method_3_code 97 = .ok (.putfield 57, 3) := by decide +kernel
theorem d_Book_addAct_100 : decode prog_2_method_3_code 100 = .ok (.return_, 1) := by decide +kernel
theorem d_Book_startNight_0 : decode prog_2_method_7_code 0 = .ok (.aload_n 0, 1) := by decide +kernel
theorem d_Book_startNight_1 : decode prog_2_method_7_code 1 = .ok (.iconst 4, 1) := by decide +kernel
theorem d_Book_startNight_2 : decode prog_2_method_7_code 2 = .ok (.aload_n 0, 1) := by decide +kernel
theorem d_Book_startNight_3 : decode prog_2_method_7_code 3 = .ok (.getfield 43, 3) := by decide +kernel
theorem d_Book_startNight_6 : decode prog_2_method_7_code 6 = .ok (.invokevirtual 63, 3) := by decide +kernel
theorem d_Book_startNight_9 : decode prog_2_method_7_code 9 = .ok (.aload_n 0, 1) := by decide +kernel
theorem d_Book_startNight_10 : decode prog_2_method_7_code 10 = .ok (.dup, 1) := by decide +kernel
theorem d_Book_startNight_11 : decode prog_2_method_7_code 11 = .ok (.getfield 40, 3) := by decide +kernel
theorem d_Book_startNight_14 : decode prog_2_method_7_code 14 = .ok (.iconst 1, 1) := by decide +kernel
theorem d_Book_startNight_15 : decode prog_2_method_7_code 15 = .ok (.iadd, 1) := by decide +kernel
theorem d_Book_startNight_16 : decode prog_2_method_7_code 16 = .ok (.putfield 40, 3) := by decide +kernel
theorem d_Book_startNight_19 : decode prog_2_method_7_code 19 = .ok (.aload_n 0, 1) := by decide +kernel
theorem d_Book_startNight_20 : decode prog_2_method_7_code 20 = .ok (.iload_n 1, 1) := by decide +kernel
theorem d_Book_startNight_21 : decode prog_2_method_7_code 21 = .ok (.putfield 67, 3) := by decide +kernel
theorem d_Book_startNight_24 : decode prog_2_method_7_code 24 = .ok (.aload_n 0, 1) := by decide +kernel
theorem d_Book_startNight_25 : decode prog_2_method_7_code 25 = .ok (.iconst 0, 1) := by decide +kernel
theorem d_Book_startNight_26 : decode prog_2_method_7_code 26 = .ok (.putfield 70, 3) := by decide +kernel
theorem d_Book_startNight_29 : decode prog_2_method_7_code 29 = .ok (.return_, 1) := by decide +kernel
theorem d_Book_draw_0 : decode prog_2_method_12_code 0 = .ok (.aload_n 0, 1) := by decide +kernel
theorem d_Book_draw_1 : decode prog_2_method_12_code 1 = .ok (.ldc2_w 83, 3) := by decide +kernel
theorem d_Book_draw_4 : decode prog_2_method_12_code 4 = .ok (.aload_n 0, 1) := by decide +kernel
theorem d_Book_draw_5 : decode prog_2_method_12_code 5 = .ok (.getfield 15, 3) := by decide +kernel
theorem d_Book_draw_8 : decode prog_2_method_12_code 8 = .ok (.i2l, 1) := by decide +kernel
theorem d_Book_draw_9 : decode prog_2_method_12_code 9 = .ok (.lmul, 1) := by decide +kernel
theorem d_Book_draw_10 : decode prog_2_method_12_code 10 = .ok (.ldc2_w 85, 3) := by decide +kernel
theorem d_Book_draw_13 : decode prog_2_method_12_code 13 = .ok (.ladd, 1) := by decide +kernel
theorem d_Book_draw_14 : decode prog_2_method_12_code 14 = .ok (.ldc2_w 87, 3) := by decide +kernel
theorem d_Book_draw_17 : decode prog_2_method_12_code 17 = .ok (.land, 1) := by decide +kernel
theorem d_Book_draw_18 : decode prog_2_method_12_code 18 = .ok (.l2i, 1) := by decide +kernel
theorem d_Book_draw_19 : decode prog_2_method_12_code 19 = .ok (.putfield 15, 3) := by decide +kernel
theorem d_Book_draw_22 : decode prog_2_method_12_code 22 = .ok (.iload_n 1, 1) := by decide +kernel
theorem d_Book_draw_23 : decode prog_2_method_12_code 23 = .ok (.ifCond .gt 7, 3) := by decide +kernel
theorem d_Book_draw_26 : decode prog_2_method_12_code 26 = .ok (.iconst 0, 1) := by decide +kernel
theorem d_Book_draw_27 : decode prog_2_method_12_code 27 = .ok (.goto 12, 3) := by decide +kernel
theorem d_Book_draw_30 : decode prog_2_method_12_code 30 = .ok (.aload_n 0, 1) := by decide +kernel
theorem d_Book_draw_31 : decode prog_2_method_12_code 31 = .ok (.getfield 15, 3) := by decide +kernel
theorem d_Book_draw_34 : decode prog_2_method_12_code 34 = .ok (.bipush 64, 2) := by decide +kernel
theorem d_Book_draw_36 : decode prog_2_method_12_code 36 = .ok (.idiv, 1) := by decide +kernel
theorem d_Book_draw_37 : decode prog_2_method_12_code 37 = .ok (.iload_n 1, 1) := by decide +kernel
theorem d_Book_draw_38 : decode prog_2_method_12_code 38 = .ok (.irem, 1) := by decide +kernel
theorem d_Book_draw_39 : decode prog_2_method_12_code 39 = .ok (.ireturn, 1) := by decide +kernel
theorem d_Book_keep_0 : decode prog_2_method_8_code 0 = .ok (.aload_n 0, 1) := by decide +kernel
theorem d_Book_keep_1 : decode prog_2_method_8_code 1 = .ok (.getfield 40, 3) := by decide +kernel
theorem d_Book_keep_4 : decode prog_2_method_8_code 4 = .ok (.bipush 8, 2) := by decide +kernel
theorem d_Book_keep_6 : decode prog_2_method_8_code 6 = .ok (.imul, 1) := by decide +kernel
theorem d_Book_keep_7 : decode prog_2_method_8_code 7 = .ok (.iload_n 1, 1) := by decide +kernel
theorem d_Book_keep_8 : decode prog_2_method_8_code 8 = .ok (.iadd, 1) := by decide +kernel
theorem d_Book_keep_9 : decode prog_2_method_8_code 9 = .ok (.bipush 8, 2) := by decide +kernel
theorem d_Book_keep_11 : decode prog_2_method_8_code 11 = .ok (.imul, 1) := by decide +kernel
theorem d_Book_keep_12 : decode prog_2_method_8_code 12 = .ok (.iload_n 2, 1) := by decide +kernel
theorem d_Book_keep_13 : decode prog_2_method_8_code 13 = .ok (.iadd, 1) := by decide +kernel
theorem d_Book_keep_14 : decode prog_2_method_8_code 14 = .ok (.iconst 2, 1) := by decide +kernel
theorem d_Book_keep_15 : decode prog_2_method_8_code 15 = .ok (.imul, 1) := by decide +kernel
theorem d_Book_keep_16 : decode prog_2_method_8_code 16 = .ok (.iload_n 3, 1) := by decide +kernel
theorem d_Book_keep_17 : decode prog_2_method_8_code 17 = .ok (.ifCond .eq 7, 3) := by decide +kernel
theorem d_Book_keep_20 : decode prog_2_method_8_code 20 = .ok (.iconst 1, 1) := by decide +kernel
theorem d_Book_keep_21 : decode prog_2_method_8_code 21 = .ok (.goto 4, 3) := by decide +kernel
theorem d_Book_keep_24 : decode prog_2_method_8_code 24 = .ok (.iconst 0, 1) := by decide +kernel
theorem d_Book_keep_25 : decode prog_2_method_8_code 25 = .ok (.iadd, 1) := by decide +kernel
theorem d_Book_keep_26 : decode prog_2_method_8_code 26 = .ok (.istore 5, 2) := by decide +kernel
theorem d_Book_keep_28 : decode prog_2_method_8_code 28 = .ok (.aload_n 0, 1) := by decide +kernel
theorem d_Book_keep_29 : decode prog_2_method_8_code 29 = .ok (.getfield 28, 3) := by decide +kernel
theorem d_Book_keep_32 : decode prog_2_method_8_code 32 = .ok (.aload_n 0, 1) := by decide +kernel
theorem d_Book_keep_33 : decode prog_2_method_8_code 33 = .ok (.getfield 60, 3) := by decide +kernel
theorem d_Book_keep_36 : decode prog_2_method_8_code 36 = .ok (.sipush 700, 3) := by decide +kernel
theorem d_Book_keep_39 : decode prog_2_method_8_code 39 = .ok (.irem, 1) := by decide +kernel
theorem d_Book_keep_40 : decode prog_2_method_8_code 40 = .ok (.iload 5, 2) := by decide +kernel
theorem d_Book_keep_42 : decode prog_2_method_8_code 42 = .ok (.sipush 128, 3) := by decide +kernel
theorem d_Book_keep_45 : decode prog_2_method_8_code 45 = .ok (.imul, 1) := by decide +kernel
theorem d_Book_keep_46 : decode prog_2_method_8_code 46 = .ok (.iload 4, 2) := by decide +kernel
theorem d_Book_keep_48 : decode prog_2_method_8_code 48 = .ok (.iadd, 1) := by decide +kernel
theorem d_Book_keep_49 : decode prog_2_method_8_code 49 = .ok (.iastore, 1) := by decide +kernel
theorem d_Book_keep_50 : decode prog_2_method_8_code 50 = .ok (.aload_n 0, 1) := by decide +kernel
theorem d_Book_keep_51 : decode prog_2_method_8_code 51 = .ok (.dup, 1) := by decide +kernel
theorem d_Book_keep_52 : decode prog_2_method_8_code 52 = .ok (.getfield 60, 3) := by decide +kernel
theorem d_Book_keep_55 : decode prog_2_method_8_code 55 = .ok (.iconst 1, 1) := by decide +kernel
theorem d_Book_keep_56 : decode prog_2_method_8_code 56 = .ok (.iadd, 1) := by decide +kernel
theorem d_Book_keep_57 : decode prog_2_method_8_code 57 = .ok (.putfield 60, 3) := by decide +kernel
theorem d_Book_keep_60 : decode prog_2_method_8_code 60 = .ok (.aload_n 0, 1) := by decide +kernel
theorem d_Book_keep_61 : decode prog_2_method_8_code 61 = .ok (.dup, 1) := by decide +kernel
theorem d_Book_keep_62 : decode prog_2_method_8_code 62 = .ok (.getfield 43, 3) := by decide +kernel
theorem d_Book_keep_65 : decode prog_2_method_8_code 65 = .ok (.aload_n 0, 1) := by decide +kernel
theorem d_Book_keep_66 : decode prog_2_method_8_code 66 = .ok (.getfield 11, 3) := by decide +kernel
theorem d_Book_keep_69 : decode prog_2_method_8_code 69 = .ok (.iconst 2, 1) := by decide +kernel
theorem d_Book_keep_70 : decode prog_2_method_8_code 70 = .ok (.iaload, 1) := by decide +kernel
theorem d_Book_keep_71 : decode prog_2_method_8_code 71 = .ok (.iadd, 1) := by decide +kernel
theorem d_Book_keep_72 : decode prog_2_method_8_code 72 = .ok (.putfield 43, 3) := by decide +kernel
theorem d_Book_keep_75 : decode prog_2_method_8_code 75 = .ok (.aload_n 0, 1) := by decide +kernel
theorem d_Book_keep_76 : decode prog_2_method_8_code 76 = .ok (.getfield 57, 3) := by decide +kernel
theorem d_Book_keep_79 : decode prog_2_method_8_code 79 = .ok (.ifCond .le 18, 3) := by decide +kernel
theorem d_Book_keep_82 : decode prog_2_method_8_code 82 = .ok (.aload_n 0, 1) := by decide +kernel
theorem d_Book_keep_83 : decode prog_2_method_8_code 83 = .ok (.getfield 25, 3) := by decide +kernel
theorem d_Book_keep_86 : decode prog_2_method_8_code 86 = .ok (.aload_n 0, 1) := by decide +kernel
theorem d_Book_keep_87 : decode prog_2_method_8_code 87 = .ok (.getfield 57, 3) := by decide +kernel
theorem d_Book_keep_90 : decode prog_2_method_8_code 90 = .ok (.iconst 1, 1) := by decide +kernel
theorem d_Book_keep_91 : decode prog_2_method_8_code 91 = .ok (.isub, 1) := by decide +kernel
theorem d_Book_keep_92 : decode prog_2_method_8_code 92 = .ok (.dup2, 1) := by decide +kernel
theorem d_Book_keep_93 : decode prog_2_method_8_code 93 = .ok (.iaload, 1) := by decide +kernel
theorem d_Book_keep_94 : decode prog_2_method_8_code 94 = .ok (.iconst 1, 1) := by decide +kernel
theorem d_Book_keep_95 : decode prog_2_method_8_code 95 = .ok (.iadd, 1) := by decide +kernel
theorem d_Book_keep_96 : decode prog_2_method_8_code 96 = .ok (.iastore, 1) := by decide +kernel
theorem d_Book_keep_97 : decode prog_2_method_8_code 97 = .ok (.return_, 1) := by decide +kernel
def f_Tree_rulesAt_67 (x2 : Int32) (σ : St) : Option (Int32 × St) :=
  gd (inB x2 192) <|
  some ((sA σ 20 x2.toNatClampNeg), σ)
def f_Tree_rulesAt (x2 : Int32) (x3 : Int32) (x4 : Int32) (x5 : Int32) (σ : St) : Option (Int32 × St) :=
  gd (inB x2 192) <|
  if (sA σ 20 x2.toNatClampNeg) = (-1) then
    bp (f_Turn_crowdBehind x3 x4 σ) fun r_3 =>
    bp (f_Showman_look_2 r_3 x3 x5 0 σ) fun σ_5 =>
    bp (f_Turn_coinsBehind x3 σ_5) fun r_7 =>
    bp (f_Showman_lookAt_2 (sI σ_5 45) r_7 σ_5) fun σ_9 =>
    bd (f_Showman_rulesThatHold_2 σ_9) fun r_11 σ_12 =>
    gd (inB x2 192) <|
    lt (uA σ_12 20 (upd (sA σ_12 20) x2.toNatClampNeg r_11)) fun σ_14 =>
    f_Tree_rulesAt_67 x2 σ_14
  else
    f_Tree_rulesAt_67 x2 σ
set_option maxHeartbeats 4000000 in
set_option maxRecDepth 20000 in
theorem t_Tree_rulesAt_67 {r : Int32} {σ2 : St} (C : Cx g A p s m av meth c prog_9_method_11_code 6 "BellHammer$Tree" (some .int))  {x2 : Int32} {σ : St} {H : Heap} {locs : List Loc} {ls : Array Slot} (hf : f_Tree_rulesAt_67   x2 σ = some (r, σ2)) (w : Wd g (wX g q) A s σ H locs) (hl : lv_has ls 6 [(0, .ref (q 25)), (2, .int x2)]) : WK p l e s m av below meth c 4 g (wX g q) A (some (.int r)) σ2 H locs (F0 m 67 ls []) := by
  obtain ⟨hx, hb, hml, hown, hts, hK, hA, hZ, hlocks, hr, hN⟩ := id C
  unfold f_Tree_rulesAt_67 at hf
  refine lv_aload_n hx hb d_Tree_rulesAt_67 rfl (lv_at hl 0 rfl) ?_
  refine xg_25_knownRules C w k473 d_Tree_rulesAt_68 ?_
  refine lv_iload_n hx hb d_Tree_rulesAt_71 rfl (lv_at hl 1 rfl) ?_
  obtain ⟨g_1, hf⟩ := gd_e hf
  refine xl_32 C w g_1 d_Tree_rulesAt_72 ?_
  obtain ⟨rfl, rfl⟩ := some2_e hf
  exact k_iret C w d_Tree_rulesAt_73
set_option maxHeartbeats 4000000 in
set_option maxRecDepth 20000 in
theorem c_Tree_rulesAt {l : Launch} {g : GX} {q : Nat → Nat} {x2 : Int32} {x3 : Int32} {x4 : Int32} {x5 : Int32}  {σ : St} {r : Int32} {σ2 : St} (hf : f_Tree_rulesAt  x2 x3 x4 x5 σ = some (r, σ2)) : KK l y_Tree_rulesAt prog_9_method_11_code 6 (some .int) 4 g (wX g q) σ [.ref (q 25), .ref (q 34), .int x2, .int x3, .int x4, .int x5] (some (.int r)) (wX g q) σ2 := by
  refine KK_of (plainFor_of_name (by decide)) (Nat.le_of_ble_eq_true rfl) (fun p e s m below meth c A ls C w hl => ?_)
  have hl : lv_has ls 6 [(0, .ref (q 25)), (1, .ref (q 34)), (2, .int x2), (3, .int x3), (4, .int x4), (5, .int x5)] := hl
  obtain ⟨hx, hb, hml, hown, hts, hK, hA, hZ, hlocks, hr, hN⟩ := id C
  unfold f_Tree_rulesAt at hf
  refine lv_aload_n hx hb d_Tree_rulesAt_0 rfl (lv_at hl 0 rfl) ?_
  refine xg_25_knownRules C w k473 d_Tree_rulesAt_1 ?_
  refine lv_iload_n hx hb d_Tree_rulesAt_4 rfl (lv_at hl 2 rfl) ?_
  obtain ⟨g_1, hf⟩ := gd_e hf
  refine xl_32 C w g_1 d_Tree_rulesAt_5 ?_
  refine lv_iconst (v := (-1)) hx hb d_Tree_rulesAt_6 (by decide) ?_
  refine lv_icmp_ne (tgt := 67) hx hb d_Tree_rulesAt_7 (by decide) (fun cd => ?_) (fun cd => ?_)
  · have hf := if_e cd hf
    exact t_Tree_rulesAt_67 C  hf w (lv_sub hl [0, 2] rfl)
  · have hf := it_e cd hf
    refine lv_aload_n hx hb d_Tree_rulesAt_10 rfl (lv_at hl 0 rfl) ?_
    refine xg_25_showman C w k462 d_Tree_rulesAt_11 ?_
    refine lv_aload_n hx hb d_Tree_rulesAt_14 rfl (lv_at hl 0 rfl) ?_
    refine xg_25_turn C w k460 d_Tree_rulesAt_15 ?_
    refine lv_iload_n hx hb d_Tree_rulesAt_18 rfl (lv_at hl 3 rfl) ?_
    refine lv_iload hx hb d_Tree_rulesAt_19 (lv_at hl 4 rfl) ?_
    obtain ⟨r_3, h_2, hf⟩ := bp_e hf
    refine k_callV (As := [.int x3, .int x4]) (rest := [.ref (q 28)]) C w (c_Turn_crowdBehind (q := q) h_2) cv_Turn_crowdBehind k904 (xr_26 C w) (by decide) hl.1 rfl (Nat.le_of_ble_eq_true rfl) d_Tree_rulesAt_21 (fun H locs w => ?_)
    show WK p l e s m _ below meth c 4 g (wX g q) A (some (.int r)) σ2 H locs (F0 m 24 ls [.int r_3, .ref (q 28)])
    refine lv_iload_n hx hb d_Tree_rulesAt_24 rfl (lv_at hl 3 rfl) ?_
    refine lv_iload hx hb d_Tree_rulesAt_25 (lv_at hl 5 rfl) ?_
    refine lv_iconst (v := 0) hx hb d_Tree_rulesAt_27 (by decide) ?_
    obtain ⟨σ_5, h_4, hf⟩ := bp_e hf
    refine k_callV (As := [.int r_3, .int x3, .int x5, .int 0]) (rest := []) C w (c_Showman_look_2 (q := q) h_4) cv_Showman_look k854 (xr_28 C w) (by decide) hl.1 rfl (Nat.le_of_ble_eq_true rfl) d_Tree_rulesAt_28 (fun H locs w => ?_)
    show WK p l e s m _ below meth c 4 g (wX g q) A (some (.int r)) σ2 H locs (F0 m 31 ls [])
    refine lv_aload_n hx hb d_Tree_rulesAt_31 rfl (lv_at hl 0 rfl) ?_
    refine xg_25_showman C w k462 d_Tree_rulesAt_32 ?_
    refine lv_aload_n hx hb d_Tree_rulesAt_35 rfl (lv_at hl 0 rfl) ?_
    refine xg_25_turn C w k460 d_Tree_rulesAt_36 ?_
    refine xg_26_lady C w k411 d_Tree_rulesAt_39 ?_
    refine lv_aload_n hx hb d_Tree_rulesAt_42 rfl (lv_at hl 0 rfl) ?_
    refine xg_25_turn C w k460 d_Tree_rulesAt_43 ?_
    refine lv_iload_n hx hb d_Tree_rulesAt_46 rfl (lv_at hl 3 rfl) ?_
    obtain ⟨r_7, h_6, hf⟩ := bp_e hf
    refine k_callV (As := [.int x3]) (rest := [.int (sI σ_5 45), .ref (q 28)]) C w (c_Turn_coinsBehind (q := q) h_6) cv_Turn_coinsBehind k855 (xr_26 C w) (by decide) hl.1 rfl (Nat.le_of_ble_eq_true rfl) d_Tree_rulesAt_47 (fun H locs w => ?_)
    show WK p l e s m _ below meth c 4 g (wX g q) A (some (.int r)) σ2 H locs (F0 m 50 ls [.int r_7, .int (sI σ_5 45), .ref (q 28)])
    obtain ⟨σ_9, h_8, hf⟩ := bp_e hf
    refine k_callV (As := [.int (sI σ_5 45), .int r_7]) (rest := []) C w (c_Showman_lookAt_2 (q := q) h_8) cv_Showman_lookAt k856 (xr_28 C w) (by decide) hl.1 rfl (Nat.le_of_ble_eq_true rfl) d_Tree_rulesAt_50 (fun H locs w => ?_)
    show WK p l e s m _ below meth c 4 g (wX g q) A (some (.int r)) σ2 H locs (F0 m 53 ls [])
    refine lv_aload_n hx hb d_Tree_rulesAt_53 rfl (lv_at hl 0 rfl) ?_
    refine xg_25_knownRules C w k473 d_Tree_rulesAt_54 ?_
    refine lv_iload_n hx hb d_Tree_rulesAt_57 rfl (lv_at hl 2 rfl) ?_
    refine lv_aload_n hx hb d_Tree_rulesAt_58 rfl (lv_at hl 0 rfl) ?_
    refine xg_25_showman C w k462 d_Tree_rulesAt_59 ?_
    refine lv_aload_n hx hb d_Tree_rulesAt_62 rfl (lv_at hl 1 rfl) ?_
    obtain ⟨r_11, σ_12, h_10, hf⟩ := bd_e hf
    refine k_callV (As := [.ref (q 34)]) (rest := [.int x2, .ref (q 32)]) C w (c_Showman_rulesThatHold_2 (q := q) h_10) cv_Showman_rulesThatHold k857 (xr_28 C w) (by decide) hl.1 rfl (Nat.le_of_ble_eq_true rfl) d_Tree_rulesAt_63 (fun H locs w => ?_)
    show WK p l e s m _ below meth c 4 g (wX g q) A (some (.int r)) σ2 H locs (F0 m 66 ls [.int r_11, .int x2, .ref (q 32)])
    obtain ⟨g_13, hf⟩ := gd_e hf
    refine xs_32 C w g_13 d_Tree_rulesAt_66 (fun σ_14 H locs eσ_14 w => ?_)
    have hf := lt_e eσ_14 hf
    exact t_Tree_rulesAt_67 C  hf w (lv_sub hl [0, 2] rfl)
def f_Tree_blowsFrom_171 (kB : Int32 → Int32 → Int32 → Int32 → Int32 → Int64 → St → Option (Int64 × St)) (k98 : Int32 → Int32 → Int32 → Int64 → Int32 → Int32 → Int64 → Int32 → St → Option (Int64 × St)) (x2 : Int32) (x3 : Int32) (x4 : Int32) (x7 : Int64) (x9 : Int32) (x10 : Int32) (x13 : Int32) (x14 : Int32) (t0 : Int32) (t1 : Int32) (t2 : Int32) (t3 : Int32) (t6 : Int64) (σ : St) : Option (Int64 × St) :=
  bd (kB t3 t2 t1 t0 x14 (x7 / 60) σ) fun r_2 σ_3 =>
  lt ((t6 + r_2)) fun x_4 =>
  lt ((x13 + 1)) fun x_5 =>
  k98 x2 x3 x4 x7 x9 x10 x_4 x_5 σ_3
def f_Tree_blowsFrom_143 (kB : Int32 → Int32 → Int32 → Int32 → Int32 → Int64 → St → Option (Int64 × St)) (k98 : Int32 → Int32 → Int32 → Int64 → Int32 → Int32 → Int64 → Int32 → St → Option (Int64 × St)) (x2 : Int32) (x3 : Int32) (x4 : Int32) (x7 : Int64) (x9 : Int32) (x10 : Int32) (x11 : Int64) (x13 : Int32) (x14 : Int32) (t0 : Int32) (t1 : Int32) (σ : St) : Option (Int64 × St) :=
  lt ((t1 + t0)) fun x_1 =>
  if x10 = 0 then
    f_Tree_blowsFrom_171 kB k98 x2 x3 x4 x7 x9 x10 x13 x14 x13 x_1 (x3 + 1) x2 x11 σ
  else
    f_Tree_blowsFrom_171 kB k98 x2 x3 x4 x7 x9 x10 x13 x14 (x13 + 6) x_1 (x3 + 1) x2 x11 σ
def f_Tree_blowsFrom_98b (kB : Int32 → Int32 → Int32 → Int32 → Int32 → Int64 → St → Option (Int64 × St)) (k98 : Int32 → Int32 → Int32 → Int64 → Int32 → Int32 → Int64 → Int32 → St → Option (Int64 × St)) (x2 : Int32) (x3 : Int32) (x4 : Int32) (x7 : Int64) (x9 : Int32) (x10 : Int32) (x11 : Int64) (x13 : Int32) (σ : St) : Option (Int64 × St) :=
  if (sI σ 41) < x13 then
    bp (f_Tree_shareOf 60 σ) fun r_2 =>
    gd (inB x9 192) <|
    lt (uB σ 0 (vp_updL (sB σ 0) x9.toNatClampNeg (x7 + (x11 * r_2)))) fun σ_4 =>
    gd (inB x9 192) <|
    some ((sB σ_4 0 x9.toNatClampNeg), σ_4)
  else
    bp (f_Turn_height_2 x3 x13 x10 σ) fun r_7 =>
    bp (f_Turn_isNear r_7 σ) fun r_9 =>
    if r_9 = 0 then
      f_Tree_blowsFrom_143 kB k98 x2 x3 x4 x7 x9 x10 x11 x13 r_7 0 x4 σ
    else
      f_Tree_blowsFrom_143 kB k98 x2 x3 x4 x7 x9 x10 x11 x13 r_7 1 x4 σ
def f_Tree_blowsFrom_98 (kB : Int32 → Int32 → Int32 → Int32 → Int32 → Int64 → St → Option (Int64 × St)) : Nat → Int32 → Int32 → Int32 → Int64 → Int32 → Int32 → Int64 → Int32 → St → Option (Int64 × St)
  | 0 => fun _ _ _ _ _ _ _ _ _ => none
  | n + 1 => f_Tree_blowsFrom_98b kB  (f_Tree_blowsFrom_98 kB  n)
def f_Tree_blowsFrom_90 (kB : Int32 → Int32 → Int32 → Int32 → Int32 → Int64 → St → Option (Int64 × St)) (x2 : Int32) (x3 : Int32) (x4 : Int32) (x7 : Int64) (x9 : Int32) (t0 : Int32) (σ : St) : Option (Int64 × St) :=
  f_Tree_blowsFrom_98 kB FU x2 x3 x4 x7 x9 t0 0 0 σ
def f_Tree_blowsFrom_89 (kB : Int32 → Int32 → Int32 → Int32 → Int32 → Int64 → St → Option (Int64 × St)) (x2 : Int32) (x3 : Int32) (x4 : Int32) (x7 : Int64) (x9 : Int32) (σ : St) : Option (Int64 × St) :=
  f_Tree_blowsFrom_90 kB x2 x3 x4 x7 x9 0 σ
def f_Tree_blowsFromB (kB : Int32 → Int32 → Int32 → Int32 → Int32 → Int64 → St → Option (Int64 × St)) (x2 : Int32) (x3 : Int32) (x4 : Int32) (x5 : Int32) (x6 : Int32) (x7 : Int64) (σ : St) : Option (Int64 × St) :=
  lt (((((x3 * 4) + x4) * 12) + x5)) fun x_1 =>
  if x_1 < 0 then
    some (0, σ)
  else
    if 192 ≤ x_1 then
      some (0, σ)
    else
      bp (f_Turn_goesOn x3 x6 σ) fun r_3 =>
      if r_3 = 0 then
        some (0, σ)
      else
        gd (inB x_1 192) <|
        if (lg_cmp (sB σ 0 x_1.toNatClampNeg) (-1)) = 0 then
          if x2 = 0 then
            f_Tree_blowsFrom_89 kB x2 x3 x4 x7 x_1 σ
          else
            bd (f_Tree_rulesAt x_1 x3 x4 x6 σ) fun r_6 σ_7 =>
            if (r_6 &&& x2) = 0 then
              f_Tree_blowsFrom_89 kB x2 x3 x4 x7 x_1 σ_7
            else
              f_Tree_blowsFrom_90 kB x2 x3 x4 x7 x_1 1 σ_7
        else
          gd (inB x_1 192) <|
          some ((sB σ 0 x_1.toNatClampNeg), σ)
def f_Tree_blowsFrom : Nat → Int32 → Int32 → Int32 → Int32 → Int32 → Int64 → St → Option (Int64 × St)
  | 0 => fun _ _ _ _ _ _ _ => none
  | d + 1 => f_Tree_blowsFromB (f_Tree_blowsFrom d)
set_option maxHeartbeats 4000000 in
set_option maxRecDepth 20000 in
theorem t_Tree_blowsFrom_171 {r : Int64} {σ2 : St} (C : Cx g A p s m av meth c prog_9_method_10_code 16 "BellHammer$Tree" (some .long)) {nk : Nat} (hnk : 5 ≤ nk) {kB : Int32 → Int32 → Int32 → Int32 → Int32 → Int64 → St → Option (Int64 × St)} (hkB : ∀ (a1 : Int32) (a2 : Int32) (a3 : Int32) (a4 : Int32) (a5 : Int32) (a6 : Int64) (σ : St) (r : Int64) (σ2 : St), kB a1 a2 a3 a4 a5 a6 σ = some (r, σ2) → KK l y_Tree_blowsFrom prog_9_method_10_code 16 (some .long) nk g (wX g q) σ [.ref (q 25), .ref (q 34), .int a1, .int a2, .int a3, .int a4, .int a5, .long a6] (some (.long r)) (wX g q) σ2) {k98 : Int32 → Int32 → Int32 → Int64 → Int32 → Int32 → Int64 → Int32 → St → Option (Int64 × St)} (hk98 : ∀ (x2 : Int32) (x3 : Int32) (x4 : Int32) (x7 : Int64) (x9 : Int32) (x10 : Int32) (x11 : Int64) (x13 : Int32) (σ : St) (H : Heap) (locs : List Loc) (ls : Array Slot), k98 x2 x3 x4 x7 x9 x10 x11 x13 σ = some (r, σ2) → Wd g (wX g q) A s σ H locs → lv_has ls 16 [(0, .ref (q 25)), (1, .ref (q 34)), (2, .int x2), (3, .int x3), (4, .int x4), (7, .long x7), (9, .int x9), (10, .int x10), (11, .long x11), (13, .int x13)] → WK p l e s m av below meth c (nk + 2) g (wX g q) A (some (.long r)) σ2 H locs (F0 m 98 ls []))  {x2 : Int32} {x3 : Int32} {x4 : Int32} {x7 : Int64} {x9 : Int32} {x10 : Int32} {x13 : Int32} {x14 : Int32} {t0 : Int32} {t1 : Int32} {t2 : Int32} {t3 : Int32} {t6 : Int64} {σ : St} {H : Heap} {locs : List Loc} {ls : Array Slot} (hf : f_Tree_blowsFrom_171 kB k98 x2 x3 x4 x7 x9 x10 x13 x14 t0 t1 t2 t3 t6 σ = some (r, σ2)) (w : Wd g (wX g q) A s σ H locs) (hl : lv_has ls 16 [(0, .ref (q 25)), (1, .ref (q 34)), (2, .int x2), (3, .int x3), (4, .int x4), (7, .long x7), (9, .int x9), (10, .int x10), (13, .int x13), (14, .int x14)]) : WK p l e s m av below meth c (nk + 2) g (wX g q) A (some (.long r)) σ2 H locs (F0 m 171 ls [.int t0, .int t1, .int t2, .int t3, .ref (q 34), .ref (q 25), .long t6]) := by
  obtain ⟨hx, hb, hml, hown, hts, hK, hA, hZ, hlocks, hr, hN⟩ := id C
  unfold f_Tree_blowsFrom_171 at hf
  refine lv_iload hx hb d_Tree_blowsFrom_171 (lv_at hl 9 rfl) ?_
  refine lv_lload hx hb d_Tree_blowsFrom_173 (lv_at hl 5 rfl) ?_
  refine lv_ldc2 (v := 60) hx hb hown (hts _ k909) d_Tree_blowsFrom_175 ?_
  refine lv_ldiv hx hb d_Tree_blowsFrom_178 (by decide) ?_
  obtain ⟨r_2, σ_3, h_1, hf⟩ := bd_e hf
  refine k_callV (As := [.ref (q 34), .int t3, .int t2, .int t1, .int t0, .int x14, .long (x7 / 60)]) (rest := [.long t6]) C w (hkB _ _ _ _ _ _ _ _ _ h_1) cv_Tree_blowsFrom k896 (xr_25 C w) (by omega) hl.1 rfl (Nat.le_of_ble_eq_true rfl) d_Tree_blowsFrom_179 (fun H locs w => ?_)
  show WK p l e s m av below meth c (nk + 2) g (wX g q) A (some (.long r)) σ2 H locs (F0 m 182 ls [.long r_2, .long t6])
  refine lv_ladd hx hb d_Tree_blowsFrom_182 ?_
  refine lv_topl (fun x_4 ex_4 => ?_)
  have hf := lt_e ex_4 hf
  refine lv_lstore (lv' := [(11, .long x_4), (0, .ref (q 25)), (1, .ref (q 34)), (2, .int x2), (3, .int x3), (4, .int x4), (7, .long x7), (9, .int x9), (10, .int x10), (13, .int x13), (14, .int x14)]) hx hb d_Tree_blowsFrom_183 hl (by decide) rfl (fun ls hl => ?_)
  obtain ⟨x_5, ex_5⟩ : ∃ y : Int32, y = (x13 + 1) := ⟨_, rfl⟩
  have hf := lt_e ex_5 hf
  refine lv_iinc (v := x_5) (lv' := [(13, .int x_5), (11, .long x_4), (0, .ref (q 25)), (1, .ref (q 34)), (2, .int x2), (3, .int x3), (4, .int x4), (7, .long x7), (9, .int x9), (10, .int x10), (14, .int x14)]) hx hb d_Tree_blowsFrom_185 hl (k := 9) rfl (by rw [ex_5]; rfl) (by decide) rfl (fun ls hl => ?_)
  refine lv_goto (tgt := 98) hx hb d_Tree_blowsFrom_188 (by decide) ?_
  exact hk98 x2 x3 x4 x7 x9 x10 x_4 x_5 σ_3 _ _ _ hf w (lv_sub hl [2, 3, 4, 5, 6, 7, 8, 9, 1, 0] rfl)
set_option maxHeartbeats 4000000 in
set_option maxRecDepth 20000 in
theorem t_Tree_blowsFrom_143 {r : Int64} {σ2 : St} (C : Cx g A p s m av meth c prog_9_method_10_code 16 "BellHammer$Tree" (some .long)) {nk : Nat} (hnk : 5 ≤ nk) {kB : Int32 → Int32 → Int32 → Int32 → Int32 → Int64 → St → Option (Int64 × St)} (hkB : ∀ (a1 : Int32) (a2 : Int32) (a3 : Int32) (a4 : Int32) (a5 : Int32) (a6 : Int64) (σ : St) (r : Int64) (σ2 : St), kB a1 a2 a3 a4 a5 a6 σ = some (r, σ2) → KK l y_Tree_blowsFrom prog_9_method_10_code 16 (some .long) nk g (wX g q) σ [.ref (q 25), .ref (q 34), .int a1, .int a2, .int a3, .int a4, .int a5, .long a6] (some (.long r)) (wX g q) σ2) {k98 : Int32 → Int32 → Int32 → Int64 → Int32 → Int32 → Int64 → Int32 → St → Option (Int64 × St)} (hk98 : ∀ (x2 : Int32) (x3 : Int32) (x4 : Int32) (x7 : Int64) (x9 : Int32) (x10 : Int32) (x11 : Int64) (x13 : Int32) (σ : St) (H : Heap) (locs : List Loc) (ls : Array Slot), k98 x2 x3 x4 x7 x9 x10 x11 x13 σ = some (r, σ2) → Wd g (wX g q) A s σ H locs → lv_has ls 16 [(0, .ref (q 25)), (1, .ref (q 34)), (2, .int x2), (3, .int x3), (4, .int x4), (7, .long x7), (9, .int x9), (10, .int x10), (11, .long x11), (13, .int x13)] → WK p l e s m av below meth c (nk + 2) g (wX g q) A (some (.long r)) σ2 H locs (F0 m 98 ls []))  {x2 : Int32} {x3 : Int32} {x4 : Int32} {x7 : Int64} {x9 : Int32} {x10 : Int32} {x11 : Int64} {x13 : Int32} {x14 : Int32} {t0 : Int32} {t1 : Int32} {σ : St} {H : Heap} {locs : List Loc} {ls : Array Slot} (hf : f_Tree_blowsFrom_143 kB k98 x2 x3 x4 x7 x9 x10 x11 x13 x14 t0 t1 σ = some (r, σ2)) (w : Wd g (wX g q) A s σ H locs) (hl : lv_has ls 16 [(0, .ref (q 25)), (1, .ref (q 34)), (2, .int x2), (3, .int x3), (4, .int x4), (7, .long x7), (9, .int x9), (10, .int x10), (11, .long x11), (13, .int x13), (14, .int x14)]) : WK p l e s m av below meth c (nk + 2) g (wX g q) A (some (.long r)) σ2 H locs (F0 m 143 ls [.int t0, .int t1]) := by
  obtain ⟨hx, hb, hml, hown, hts, hK, hA, hZ, hlocks, hr, hN⟩ := id C
  unfold f_Tree_blowsFrom_143 at hf
  refine lv_iadd hx hb d_Tree_blowsFrom_143 ?_
  refine lv_topi (fun x_1 ex_1 => ?_)
  have hf := lt_e ex_1 hf
  refine lv_istore (lv' := [(15, .int x_1), (0, .ref (q 25)), (1, .ref (q 34)), (2, .int x2), (3, .int x3), (4, .int x4), (7, .long x7), (9, .int x9), (10, .int x10), (11, .long x11), (13, .int x13), (14, .int x14)]) hx hb d_Tree_blowsFrom_144 hl (by decide) rfl (fun ls hl => ?_)
  refine lv_lload hx hb d_Tree_blowsFrom_146 (lv_at hl 9 rfl) ?_
  refine lv_aload_n hx hb d_Tree_blowsFrom_148 rfl (lv_at hl 1 rfl) ?_
  refine lv_aload_n hx hb d_Tree_blowsFrom_149 rfl (lv_at hl 2 rfl) ?_
  refine lv_iload_n hx hb d_Tree_blowsFrom_150 rfl (lv_at hl 3 rfl) ?_
  refine lv_iload_n hx hb d_Tree_blowsFrom_151 rfl (lv_at hl 4 rfl) ?_
  refine lv_iconst (v := 1) hx hb d_Tree_blowsFrom_152 (by decide) ?_
  refine lv_iadd hx hb d_Tree_blowsFrom_153 ?_
  refine lv_iload hx hb d_Tree_blowsFrom_154 (lv_at hl 0 rfl) ?_
  refine lv_iload hx hb d_Tree_blowsFrom_156 (lv_at hl 8 rfl) ?_
  refine lv_if_eq (tgt := 169) hx hb d_Tree_blowsFrom_158 (by decide) (fun cd => ?_) (fun cd => ?_)
  · have hf := it_e cd hf
    refine lv_iload hx hb d_Tree_blowsFrom_169 (lv_at hl 10 rfl) ?_
    exact t_Tree_blowsFrom_171 C hnk hkB hk98 hf w (lv_sub hl [1, 2, 3, 4, 5, 6, 7, 8, 10, 11] rfl)
  · have hf := if_e cd hf
    refine lv_iload hx hb d_Tree_blowsFrom_161 (lv_at hl 10 rfl) ?_
    refine lv_bipush (v := 6) hx hb d_Tree_blowsFrom_163 (by decide) ?_
    refine lv_iadd hx hb d_Tree_blowsFrom_165 ?_
    refine lv_goto (tgt := 171) hx hb d_Tree_blowsFrom_166 (by decide) ?_
    exact t_Tree_blowsFrom_171 C hnk hkB hk98 hf w (lv_sub hl [1, 2, 3, 4, 5, 6, 7, 8, 10, 11] rfl)
set_option maxHeartbeats 4000000 in
set_option maxRecDepth 20000 in
theorem t_Tree_blowsFrom_98b {r : Int64} {σ2 : St} (C : Cx g A p s m av meth c prog_9_method_10_code 16 "BellHammer$Tree" (some .long)) {nk : Nat} (hnk : 5 ≤ nk) {kB : Int32 → Int32 → Int32 → Int32 → Int32 → Int64 → St → Option (Int64 × St)} (hkB : ∀ (a1 : Int32) (a2 : Int32) (a3 : Int32) (a4 : Int32) (a5 : Int32) (a6 : Int64) (σ : St) (r : Int64) (σ2 : St), kB a1 a2 a3 a4 a5 a6 σ = some (r, σ2) → KK l y_Tree_blowsFrom prog_9_method_10_code 16 (some .long) nk g (wX g q) σ [.ref (q 25), .ref (q 34), .int a1, .int a2, .int a3, .int a4, .int a5, .long a6] (some (.long r)) (wX g q) σ2) {k98 : Int32 → Int32 → Int32 → Int64 → Int32 → Int32 → Int64 → Int32 → St → Option (Int64 × St)} (hk98 : ∀ (x2 : Int32) (x3 : Int32) (x4 : Int32) (x7 : Int64) (x9 : Int32) (x10 : Int32) (x11 : Int64) (x13 : Int32) (σ : St) (H : Heap) (locs : List Loc) (ls : Array Slot), k98 x2 x3 x4 x7 x9 x10 x11 x13 σ = some (r, σ2) → Wd g (wX g q) A s σ H locs → lv_has ls 16 [(0, .ref (q 25)), (1, .ref (q 34)), (2, .int x2), (3, .int x3), (4, .int x4), (7, .long x7), (9, .int x9), (10, .int x10), (11, .long x11), (13, .int x13)] → WK p l e s m av below meth c (nk + 2) g (wX g q) A (some (.long r)) σ2 H locs (F0 m 98 ls []))  {x2 : Int32} {x3 : Int32} {x4 : Int32} {x7 : Int64} {x9 : Int32} {x10 : Int32} {x11 : Int64} {x13 : Int32} {σ : St} {H : Heap} {locs : List Loc} {ls : Array Slot} (hf : f_Tree_blowsFrom_98b kB k98 x2 x3 x4 x7 x9 x10 x11 x13 σ = some (r, σ2)) (w : Wd g (wX g q) A s σ H locs) (hl : lv_has ls 16 [(0, .ref (q 25)), (1, .ref (q 34)), (2, .int x2), (3, .int x3), (4, .int x4), (7, .long x7), (9, .int x9), (10, .int x10), (11, .long x11), (13, .int x13)]) : WK p l e s m av below meth c (nk + 2) g (wX g q) A (some (.long r)) σ2 H locs (F0 m 98 ls []) := by
  obtain ⟨hx, hb, hml, hown, hts, hK, hA, hZ, hlocks, hr, hN⟩ := id C
  unfold f_Tree_blowsFrom_98b at hf
  refine lv_iload hx hb d_Tree_blowsFrom_98 (lv_at hl 9 rfl) ?_
  refine lv_aload_n hx hb d_Tree_blowsFrom_100 rfl (lv_at hl 0 rfl) ?_
  refine xg_25_turn C w k460 d_Tree_blowsFrom_101 ?_
  refine xg_26_aim C w k405 d_Tree_blowsFrom_104 ?_
  refine lv_icmp_gt (tgt := 191) hx hb d_Tree_blowsFrom_107 (by decide) (fun cd => ?_) (fun cd => ?_)
  · have hf := it_e cd hf
    refine lv_aload_n hx hb d_Tree_blowsFrom_191 rfl (lv_at hl 0 rfl) ?_
    refine xg_25_knownBlows C w k472 d_Tree_blowsFrom_192 ?_
    refine lv_iload hx hb d_Tree_blowsFrom_195 (lv_at hl 6 rfl) ?_
    refine lv_lload hx hb d_Tree_blowsFrom_197 (lv_at hl 5 rfl) ?_
    refine lv_lload hx hb d_Tree_blowsFrom_199 (lv_at hl 8 rfl) ?_
    refine lv_aload_n hx hb d_Tree_blowsFrom_201 rfl (lv_at hl 0 rfl) ?_
    refine lv_ldc2 (v := 60) hx hb hown (hts _ k909) d_Tree_blowsFrom_202 ?_
    obtain ⟨r_2, h_1, hf⟩ := bp_e hf
    refine k_callV (As := [.long 60]) (rest := [.long x11, .long x7, .int x9, .ref (q 31)]) C w (c_Tree_shareOf (q := q) h_1) cv_Tree_shareOf k858 (xr_25 C w) (by omega) hl.1 rfl (Nat.le_of_ble_eq_true rfl) d_Tree_blowsFrom_205 (fun H locs w => ?_)
    show WK p l e s m av below meth c (nk + 2) g (wX g q) A (some (.long r)) σ2 H locs (F0 m 208 ls [.long r_2, .long x11, .long x7, .int x9, .ref (q 31)])
    refine lv_lmul hx hb d_Tree_blowsFrom_208 ?_
    refine lv_ladd hx hb d_Tree_blowsFrom_209 ?_
    obtain ⟨g_3, hf⟩ := gd_e hf
    refine xs_31 C w g_3 d_Tree_blowsFrom_210 (fun σ_4 H locs eσ_4 w => ?_)
    have hf := lt_e eσ_4 hf
    refine lv_aload_n hx hb d_Tree_blowsFrom_211 rfl (lv_at hl 0 rfl) ?_
    refine xg_25_knownBlows C w k472 d_Tree_blowsFrom_212 ?_
    refine lv_iload hx hb d_Tree_blowsFrom_215 (lv_at hl 6 rfl) ?_
    obtain ⟨g_5, hf⟩ := gd_e hf
    refine xl_31 C w g_5 d_Tree_blowsFrom_217 ?_
    obtain ⟨rfl, rfl⟩ := some2_e hf
    exact k_lret C w d_Tree_blowsFrom_218
  · have hf := if_e cd hf
    refine lv_aload_n hx hb d_Tree_blowsFrom_110 rfl (lv_at hl 0 rfl) ?_
    refine xg_25_turn C w k460 d_Tree_blowsFrom_111 ?_
    refine lv_iload_n hx hb d_Tree_blowsFrom_114 rfl (lv_at hl 3 rfl) ?_
    refine lv_iload hx hb d_Tree_blowsFrom_115 (lv_at hl 9 rfl) ?_
    refine lv_iload hx hb d_Tree_blowsFrom_117 (lv_at hl 7 rfl) ?_
    obtain ⟨r_7, h_6, hf⟩ := bp_e hf
    refine k_callV (As := [.int x3, .int x13, .int x10]) (rest := []) C w (c_Turn_height_2 (q := q) h_6) cv_Turn_height k862 (xr_26 C w) (by omega) hl.1 rfl (Nat.le_of_ble_eq_true rfl) d_Tree_blowsFrom_119 (fun H locs w => ?_)
    show WK p l e s m av below meth c (nk + 2) g (wX g q) A (some (.long r)) σ2 H locs (F0 m 122 ls [.int r_7])
    refine lv_istore (lv' := [(14, .int r_7), (0, .ref (q 25)), (1, .ref (q 34)), (2, .int x2), (3, .int x3), (4, .int x4), (7, .long x7), (9, .int x9), (10, .int x10), (11, .long x11), (13, .int x13)]) hx hb d_Tree_blowsFrom_122 hl (by decide) rfl (fun ls hl => ?_)
    refine lv_iload hx hb d_Tree_blowsFrom_124 (lv_at hl 5 rfl) ?_
    refine lv_aload_n hx hb d_Tree_blowsFrom_126 rfl (lv_at hl 1 rfl) ?_
    refine xg_25_turn C w k460 d_Tree_blowsFrom_127 ?_
    refine lv_iload hx hb d_Tree_blowsFrom_130 (lv_at hl 0 rfl) ?_
    obtain ⟨r_9, h_8, hf⟩ := bp_e hf
    refine k_callV (As := [.int r_7]) (rest := [.int x4]) C w (c_Turn_isNear (q := q) h_8) cv_Turn_isNear k908 (xr_26 C w) (by omega) hl.1 rfl (Nat.le_of_ble_eq_true rfl) d_Tree_blowsFrom_132 (fun H locs w => ?_)
    show WK p l e s m av below meth c (nk + 2) g (wX g q) A (some (.long r)) σ2 H locs (F0 m 135 ls [.int r_9, .int x4])
    refine lv_if_eq (tgt := 142) hx hb d_Tree_blowsFrom_135 (by decide) (fun cd => ?_) (fun cd => ?_)
    · have hf := it_e cd hf
      refine lv_iconst (v := 0) hx hb d_Tree_blowsFrom_142 (by decide) ?_
      exact t_Tree_blowsFrom_143 C hnk hkB hk98 hf w (lv_sub hl [1, 2, 3, 4, 5, 6, 7, 8, 9, 10, 0] rfl)
    · have hf := if_e cd hf
      refine lv_iconst (v := 1) hx hb d_Tree_blowsFrom_138 (by decide) ?_
      refine lv_goto (tgt := 143) hx hb d_Tree_blowsFrom_139 (by decide) ?_
      exact t_Tree_blowsFrom_143 C hnk hkB hk98 hf w (lv_sub hl [1, 2, 3, 4, 5, 6, 7, 8, 9, 10, 0] rfl)
set_option maxHeartbeats 4000000 in
set_option maxRecDepth 20000 in
theorem t_Tree_blowsFrom_98 {r : Int64} {σ2 : St} (C : Cx g A p s m av meth c prog_9_method_10_code 16 "BellHammer$Tree" (some .long)) {nk : Nat} (hnk : 5 ≤ nk) {kB : Int32 → Int32 → Int32 → Int32 → Int32 → Int64 → St → Option (Int64 × St)} (hkB : ∀ (a1 : Int32) (a2 : Int32) (a3 : Int32) (a4 : Int32) (a5 : Int32) (a6 : Int64) (σ : St) (r : Int64) (σ2 : St), kB a1 a2 a3 a4 a5 a6 σ = some (r, σ2) → KK l y_Tree_blowsFrom prog_9_method_10_code 16 (some .long) nk g (wX g q) σ [.ref (q 25), .ref (q 34), .int a1, .int a2, .int a3, .int a4, .int a5, .long a6] (some (.long r)) (wX g q) σ2)  : ∀ (n : Nat) (x2 : Int32) (x3 : Int32) (x4 : Int32) (x7 : Int64) (x9 : Int32) (x10 : Int32) (x11 : Int64) (x13 : Int32) (σ : St) (H : Heap) (locs : List Loc) (ls : Array Slot), f_Tree_blowsFrom_98 kB  n x2 x3 x4 x7 x9 x10 x11 x13 σ = some (r, σ2) → Wd g (wX g q) A s σ H locs → lv_has ls 16 [(0, .ref (q 25)), (1, .ref (q 34)), (2, .int x2), (3, .int x3), (4, .int x4), (7, .long x7), (9, .int x9), (10, .int x10), (11, .long x11), (13, .int x13)] → WK p l e s m av below meth c (nk + 2) g (wX g q) A (some (.long r)) σ2 H locs (F0 m 98 ls []) := by
  intro n
  induction n with
  | zero => intro x2 x3 x4 x7 x9 x10 x11 x13 σ H locs ls hf; exact absurd hf (by intro z; cases z)
  | succ n ih => intro x2 x3 x4 x7 x9 x10 x11 x13 σ H locs ls hf w hl; exact t_Tree_blowsFrom_98b C hnk hkB  ih hf w hl
set_option maxHeartbeats 4000000 in
set_option maxRecDepth 20000 in
theorem t_Tree_blowsFrom_90 {r : Int64} {σ2 : St} (C : Cx g A p s m av meth c prog_9_method_10_code 16 "BellHammer$Tree" (some .long)) {nk : Nat} (hnk : 5 ≤ nk) {kB : Int32 → Int32 → Int32 → Int32 → Int32 → Int64 → St → Option (Int64 × St)} (hkB : ∀ (a1 : Int32) (a2 : Int32) (a3 : Int32) (a4 : Int32) (a5 : Int32) (a6 : Int64) (σ : St) (r : Int64) (σ2 : St), kB a1 a2 a3 a4 a5 a6 σ = some (r, σ2) → KK l y_Tree_blowsFrom prog_9_method_10_code 16 (some .long) nk g (wX g q) σ [.ref (q 25), .ref (q 34), .int a1, .int a2, .int a3, .int a4, .int a5, .long a6] (some (.long r)) (wX g q) σ2)  {x2 : Int32} {x3 : Int32} {x4 : Int32} {x7 : Int64} {x9 : Int32} {t0 : Int32} {σ : St} {H : Heap} {locs : List Loc} {ls : Array Slot} (hf : f_Tree_blowsFrom_90 kB  x2 x3 x4 x7 x9 t0 σ = some (r, σ2)) (w : Wd g (wX g q) A s σ H locs) (hl : lv_has ls 16 [(0, .ref (q 25)), (1, .ref (q 34)), (2, .int x2), (3, .int x3), (4, .int x4), (7, .long x7), (9, .int x9)]) : WK p l e s m av below meth c (nk + 2) g (wX g q) A (some (.long r)) σ2 H locs (F0 m 90 ls [.int t0]) := by
  obtain ⟨hx, hb, hml, hown, hts, hK, hA, hZ, hlocks, hr, hN⟩ := id C
  unfold f_Tree_blowsFrom_90 at hf
  refine lv_istore (lv' := [(10, .int t0), (0, .ref (q 25)), (1, .ref (q 34)), (2, .int x2), (3, .int x3), (4, .int x4), (7, .long x7), (9, .int x9)]) hx hb d_Tree_blowsFrom_90 hl (by decide) rfl (fun ls hl => ?_)
  refine lv_lconst (v := 0) hx hb d_Tree_blowsFrom_92 (by decide) ?_
  refine lv_lstore (lv' := [(11, .long 0), (10, .int t0), (0, .ref (q 25)), (1, .ref (q 34)), (2, .int x2), (3, .int x3), (4, .int x4), (7, .long x7), (9, .int x9)]) hx hb d_Tree_blowsFrom_93 hl (by decide) rfl (fun ls hl => ?_)
  refine lv_iconst (v := 0) hx hb d_Tree_blowsFrom_95 (by decide) ?_
  refine lv_istore (lv' := [(13, .int 0), (11, .long 0), (10, .int t0), (0, .ref (q 25)), (1, .ref (q 34)), (2, .int x2), (3, .int x3), (4, .int x4), (7, .long x7), (9, .int x9)]) hx hb d_Tree_blowsFrom_96 hl (by decide) rfl (fun ls hl => ?_)
  exact t_Tree_blowsFrom_98 C hnk hkB  FU x2 x3 x4 x7 x9 t0 0 0 σ _ _ _ hf w (lv_sub hl [3, 4, 5, 6, 7, 8, 9, 2, 1, 0] rfl)
set_option maxHeartbeats 4000000 in
set_option maxRecDepth 20000 in
theorem t_Tree_blowsFrom_89 {r : Int64} {σ2 : St} (C : Cx g A p s m av meth c prog_9_method_10_code 16 "BellHammer$Tree" (some .long)) {nk : Nat} (hnk : 5 ≤ nk) {kB : Int32 → Int32 → Int32 → Int32 → Int32 → Int64 → St → Option (Int64 × St)} (hkB : ∀ (a1 : Int32) (a2 : Int32) (a3 : Int32) (a4 : Int32) (a5 : Int32) (a6 : Int64) (σ : St) (r : Int64) (σ2 : St), kB a1 a2 a3 a4 a5 a6 σ = some (r, σ2) → KK l y_Tree_blowsFrom prog_9_method_10_code 16 (some .long) nk g (wX g q) σ [.ref (q 25), .ref (q 34), .int a1, .int a2, .int a3, .int a4, .int a5, .long a6] (some (.long r)) (wX g q) σ2)  {x2 : Int32} {x3 : Int32} {x4 : Int32} {x7 : Int64} {x9 : Int32} {σ : St} {H : Heap} {locs : List Loc} {ls : Array Slot} (hf : f_Tree_blowsFrom_89 kB  x2 x3 x4 x7 x9 σ = some (r, σ2)) (w : Wd g (wX g q) A s σ H locs) (hl : lv_has ls 16 [(0, .ref (q 25)), (1, .ref (q 34)), (2, .int x2), (3, .int x3), (4, .int x4), (7, .long x7), (9, .int x9)]) : WK p l e s m av below meth c (nk + 2) g (wX g q) A (some (.long r)) σ2 H locs (F0 m 89 ls []) := by
  obtain ⟨hx, hb, hml, hown, hts, hK, hA, hZ, hlocks, hr, hN⟩ := id C
  unfold f_Tree_blowsFrom_89 at hf
  refine lv_iconst (v := 0) hx hb d_Tree_blowsFrom_89 (by decide) ?_
  exact t_Tree_blowsFrom_90 C hnk hkB  hf w (lv_sub hl [0, 1, 2, 3, 4, 5, 6] rfl)
set_option maxHeartbeats 4000000 in
set_option maxRecDepth 20000 in
theorem c_Tree_blowsFromB {l : Launch} {g : GX} {q : Nat → Nat} {nk : Nat} (hnk : 5 ≤ nk) {kB : Int32 → Int32 → Int32 → Int32 → Int32 → Int64 → St → Option (Int64 × St)} (hkB : ∀ (a1 : Int32) (a2 : Int32) (a3 : Int32) (a4 : Int32) (a5 : Int32) (a6 : Int64) (σ : St) (r : Int64) (σ2 : St), kB a1 a2 a3 a4 a5 a6 σ = some (r, σ2) → KK l y_Tree_blowsFrom prog_9_method_10_code 16 (some .long) nk g (wX g q) σ [.ref (q 25), .ref (q 34), .int a1, .int a2, .int a3, .int a4, .int a5, .long a6] (some (.long r)) (wX g q) σ2) {x2 : Int32} {x3 : Int32} {x4 : Int32} {x5 : Int32} {x6 : Int32} {x7 : Int64}  {σ : St} {r : Int64} {σ2 : St} (hf : f_Tree_blowsFromB kB x2 x3 x4 x5 x6 x7 σ = some (r, σ2)) : KK l y_Tree_blowsFrom prog_9_method_10_code 16 (some .long) (nk + 2) g (wX g q) σ [.ref (q 25), .ref (q 34), .int x2, .int x3, .int x4, .int x5, .int x6, .long x7] (some (.long r)) (wX g q) σ2 := by
  refine KK_of (plainFor_of_name (by decide)) (Nat.le_of_ble_eq_true rfl) (fun p e s m below meth c A ls C w hl => ?_)
  have hl : lv_has ls 16 [(0, .ref (q 25)), (1, .ref (q 34)), (2, .int x2), (3, .int x3), (4, .int x4), (5, .int x5), (6, .int x6), (7, .long x7)] := hl
  obtain ⟨hx, hb, hml, hown, hts, hK, hA, hZ, hlocks, hr, hN⟩ := id C
  unfold f_Tree_blowsFromB at hf
  refine lv_iload_n hx hb d_Tree_blowsFrom_0 rfl (lv_at hl 3 rfl) ?_
  refine lv_iconst (v := 4) hx hb d_Tree_blowsFrom_1 (by decide) ?_
  refine lv_imul hx hb d_Tree_blowsFrom_2 ?_
  refine lv_iload hx hb d_Tree_blowsFrom_3 (lv_at hl 4 rfl) ?_
  refine lv_iadd hx hb d_Tree_blowsFrom_5 ?_
  refine lv_bipush (v := 12) hx hb d_Tree_blowsFrom_6 (by decide) ?_
  refine lv_imul hx hb d_Tree_blowsFrom_8 ?_
  refine lv_iload hx hb d_Tree_blowsFrom_9 (lv_at hl 5 rfl) ?_
  refine lv_iadd hx hb d_Tree_blowsFrom_11 ?_
  refine lv_topi (fun x_1 ex_1 => ?_)
  have hf := lt_e ex_1 hf
  refine lv_istore (lv' := [(9, .int x_1), (0, .ref (q 25)), (1, .ref (q 34)), (2, .int x2), (3, .int x3), (4, .int x4), (5, .int x5), (6, .int x6), (7, .long x7)]) hx hb d_Tree_blowsFrom_12 hl (by decide) rfl (fun ls hl => ?_)
  refine lv_iload hx hb d_Tree_blowsFrom_14 (lv_at hl 0 rfl) ?_
  refine lv_if_lt (tgt := 40) hx hb d_Tree_blowsFrom_16 (by decide) (fun cd => ?_) (fun cd => ?_)
  · have hf := it_e cd hf
    refine lv_lconst (v := 0) hx hb d_Tree_blowsFrom_40 (by decide) ?_
    obtain ⟨rfl, rfl⟩ := some2_e hf
    exact k_lret C w d_Tree_blowsFrom_41
  · have hf := if_e cd hf
    refine lv_iload hx hb d_Tree_blowsFrom_19 (lv_at hl 0 rfl) ?_
    refine lv_sipush (v := 192) hx hb d_Tree_blowsFrom_21 (by decide) ?_
    refine lv_icmp_ge (tgt := 40) hx hb d_Tree_blowsFrom_24 (by decide) (fun cd => ?_) (fun cd => ?_)
    · have hf := it_e cd hf
      refine lv_lconst (v := 0) hx hb d_Tree_blowsFrom_40 (by decide) ?_
      obtain ⟨rfl, rfl⟩ := some2_e hf
      exact k_lret C w d_Tree_blowsFrom_41
    · have hf := if_e cd hf
      refine lv_aload_n hx hb d_Tree_blowsFrom_27 rfl (lv_at hl 1 rfl) ?_
      refine xg_25_turn C w k460 d_Tree_blowsFrom_28 ?_
      refine lv_iload_n hx hb d_Tree_blowsFrom_31 rfl (lv_at hl 4 rfl) ?_
      refine lv_iload hx hb d_Tree_blowsFrom_32 (lv_at hl 7 rfl) ?_
      obtain ⟨r_3, h_2, hf⟩ := bp_e hf
      refine k_callV (As := [.int x3, .int x6]) (rest := []) C w (c_Turn_goesOn (q := q) h_2) cv_Turn_goesOn k840 (xr_26 C w) (by omega) hl.1 rfl (Nat.le_of_ble_eq_true rfl) d_Tree_blowsFrom_34 (fun H locs w => ?_)
      show WK p l e s m _ below meth c (nk + 2) g (wX g q) A (some (.long r)) σ2 H locs (F0 m 37 ls [.int r_3])
      refine lv_if_ne (tgt := 42) hx hb d_Tree_blowsFrom_37 (by decide) (fun cd => ?_) (fun cd => ?_)
      · have hf := if_e cd hf
        refine lv_aload_n hx hb d_Tree_blowsFrom_42 rfl (lv_at hl 1 rfl) ?_
        refine xg_25_knownBlows C w k472 d_Tree_blowsFrom_43 ?_
        refine lv_iload hx hb d_Tree_blowsFrom_46 (lv_at hl 0 rfl) ?_
        obtain ⟨g_4, hf⟩ := gd_e hf
        refine xl_31 C w g_4 d_Tree_blowsFrom_48 ?_
        refine lv_ldc2 (v := (-1)) hx hb hown (hts _ k895) d_Tree_blowsFrom_49 ?_
        refine W.lcmp hx hb d_Tree_blowsFrom_52 ?_
        refine lv_if_eq (tgt := 64) hx hb d_Tree_blowsFrom_53 (by decide) (fun cd => ?_) (fun cd => ?_)
        · have hf := it_e cd hf
          refine lv_iload_n hx hb d_Tree_blowsFrom_64 rfl (lv_at hl 3 rfl) ?_
          refine lv_if_eq (tgt := 89) hx hb d_Tree_blowsFrom_65 (by decide) (fun cd => ?_) (fun cd => ?_)
          · have hf := it_e cd hf
            exact t_Tree_blowsFrom_89 C hnk hkB  hf w (lv_sub hl [1, 2, 3, 4, 5, 8, 0] rfl)
          · have hf := if_e cd hf
            refine lv_aload_n hx hb d_Tree_blowsFrom_68 rfl (lv_at hl 1 rfl) ?_
            refine lv_aload_n hx hb d_Tree_blowsFrom_69 rfl (lv_at hl 2 rfl) ?_
            refine lv_iload hx hb d_Tree_blowsFrom_70 (lv_at hl 0 rfl) ?_
            refine lv_iload_n hx hb d_Tree_blowsFrom_72 rfl (lv_at hl 4 rfl) ?_
            refine lv_iload hx hb d_Tree_blowsFrom_73 (lv_at hl 5 rfl) ?_
            refine lv_iload hx hb d_Tree_blowsFrom_75 (lv_at hl 7 rfl) ?_
            obtain ⟨r_6, σ_7, h_5, hf⟩ := bd_e hf
            refine k_callV (As := [.ref (q 34), .int x_1, .int x3, .int x4, .int x6]) (rest := []) C w (c_Tree_rulesAt (q := q) h_5) cv_Tree_rulesAt k900 (xr_25 C w) (by omega) hl.1 rfl (Nat.le_of_ble_eq_true rfl) d_Tree_blowsFrom_77 (fun H locs w => ?_)
            show WK p l e s m _ below meth c (nk + 2) g (wX g q) A (some (.long r)) σ2 H locs (F0 m 80 ls [.int r_6])
            refine lv_iload_n hx hb d_Tree_blowsFrom_80 rfl (lv_at hl 3 rfl) ?_
            refine lv_iand hx hb d_Tree_blowsFrom_81 ?_
            refine lv_if_eq (tgt := 89) hx hb d_Tree_blowsFrom_82 (by decide) (fun cd => ?_) (fun cd => ?_)
            · have hf := it_e cd hf
              exact t_Tree_blowsFrom_89 C hnk hkB  hf w (lv_sub hl [1, 2, 3, 4, 5, 8, 0] rfl)
            · have hf := if_e cd hf
              refine lv_iconst (v := 1) hx hb d_Tree_blowsFrom_85 (by decide) ?_
              refine lv_goto (tgt := 90) hx hb d_Tree_blowsFrom_86 (by decide) ?_
              exact t_Tree_blowsFrom_90 C hnk hkB  hf w (lv_sub hl [1, 2, 3, 4, 5, 8, 0] rfl)
        · have hf := if_e cd hf
          refine lv_aload_n hx hb d_Tree_blowsFrom_56 rfl (lv_at hl 1 rfl) ?_
          refine xg_25_knownBlows C w k472 d_Tree_blowsFrom_57 ?_
          refine lv_iload hx hb d_Tree_blowsFrom_60 (lv_at hl 0 rfl) ?_
          obtain ⟨g_8, hf⟩ := gd_e hf
          refine xl_31 C w g_8 d_Tree_blowsFrom_62 ?_
          obtain ⟨rfl, rfl⟩ := some2_e hf
          exact k_lret C w d_Tree_blowsFrom_63
      · have hf := it_e cd hf
        refine lv_lconst (v := 0) hx hb d_Tree_blowsFrom_40 (by decide) ?_
        obtain ⟨rfl, rfl⟩ := some2_e hf
        exact k_lret C w d_Tree_blowsFrom_41
set_option maxHeartbeats 4000000 in
set_option maxRecDepth 20000 in
theorem c_Tree_blowsFrom {l : Launch} {g : GX} {q : Nat → Nat} : ∀ (d : Nat) (x2 : Int32) (x3 : Int32) (x4 : Int32) (x5 : Int32) (x6 : Int32) (x7 : Int64) (σ : St) (r : Int64) (σ2 : St), f_Tree_blowsFrom d x2 x3 x4 x5 x6 x7 σ = some (r, σ2) → KK l y_Tree_blowsFrom prog_9_method_10_code 16 (some .long) (5 + 2 * d) g (wX g q) σ [.ref (q 25), .ref (q 34), .int x2, .int x3, .int x4, .int x5, .int x6, .long x7] (some (.long r)) (wX g q) σ2 := by
  intro d
  induction d with
  | zero => intro x2 x3 x4 x5 x6 x7 σ r σ2 hf; exact absurd hf (by intro z; cases z)
  | succ d ih =>
    intro x2 x3 x4 x5 x6 x7 σ r σ2 hf
    have := c_Tree_blowsFromB (l := l) (g := g) (q := q) (nk := 5 + 2 * d) (by omega) ih hf
    rw [show 5 + 2 * (d + 1) = 5 + 2 * d + 2 from by omega]
    exact this
def f_Tree_weighRules_124b (k124 : Int32 → Int32 → St → Option (St)) (x3 : Int32) (x4 : Int32) (σ : St) : Option (St) :=
  if x3 ≤ x4 then
    some σ
  else
    gd (inB x4 64) <|
    if (lg_cmp (sB σ 1 x4.toNatClampNeg) (sJ σ 4)) ≤ 0 then
      lt ((x4 + 1)) fun x_2 =>
      k124 x3 x_2 σ
    else
      lt (uI σ 39 x4) fun σ_3 =>
      gd (inB x4 64) <|
      lt (uJ σ_3 4 (sB σ_3 1 x4.toNatClampNeg)) fun σ_5 =>
      lt ((x4 + 1)) fun x_6 =>
      k124 x3 x_6 σ_5
def f_Tree_weighRules_124 : Nat → Int32 → Int32 → St → Option (St)
  | 0 => fun _ _ _ => none
  | n + 1 => f_Tree_weighRules_124b   (f_Tree_weighRules_124   n)
def f_Tree_weighRules_54b (k23 : Int32 → Int32 → St → Option (St)) (k54 : Int32 → Int32 → Int32 → St → Option (St)) (x3 : Int32) (x4 : Int32) (x5 : Int32) (σ : St) : Option (St) :=
  if x3 ≤ x5 then
    lt ((x4 + 1)) fun x_1 =>
    k23 x3 x_1 σ
  else
    bp (f_Arrays_fill_J_2 (-1) σ) fun σ_3 =>
    gd (inB x5 64) <|
    bd (f_Tree_blowsFrom 6 x5 0 0 0 0 12960000 σ_3) fun r_6 σ_7 =>
    gd (inB x5 64) <|
    lt (uB σ_7 1 (vp_updL (sB σ_7 1) x5.toNatClampNeg ((sB σ_3 1 x5.toNatClampNeg) + r_6))) fun σ_9 =>
    lt ((x5 + 1)) fun x_10 =>
    k54 x3 x4 x_10 σ_9
def f_Tree_weighRules_54 (k23 : Int32 → Int32 → St → Option (St)) : Nat → Int32 → Int32 → Int32 → St → Option (St)
  | 0 => fun _ _ _ _ => none
  | n + 1 => f_Tree_weighRules_54b  k23 (f_Tree_weighRules_54  k23 n)
def f_Tree_weighRules_23b (k23 : Int32 → Int32 → St → Option (St)) (x3 : Int32) (x4 : Int32) (σ : St) : Option (St) :=
  if (sI σ 54) ≤ x4 then
    lt (uI σ 39 0) fun σ_1 =>
    lt (uJ σ_1 4 (sB σ_1 1 (0 : Int32).toNatClampNeg)) fun σ_2 =>
    f_Tree_weighRules_124 FU x3 1 σ_2
  else
    bp (f_Turn_load_2 x4 σ) fun σ_4 =>
    bp (f_Arrays_fill_I (-1) σ_4) fun σ_6 =>
    f_Tree_weighRules_54 k23 FU x3 x4 0 σ_6
def f_Tree_weighRules_23 : Nat → Int32 → Int32 → St → Option (St)
  | 0 => fun _ _ _ => none
  | n + 1 => f_Tree_weighRules_23b   (f_Tree_weighRules_23   n)
def f_Tree_weighRules (σ : St) : Option (St) :=
  lt ((1 <<< ((iMin (sI σ 55) 6) &&& 31))) fun x_1 =>
  bp (f_Arrays_fill_J 0 σ) fun σ_3 =>
  f_Tree_weighRules_23 FU x_1 0 σ_3
set_option maxHeartbeats 4000000 in
set_option maxRecDepth 20000 in
theorem t_Tree_weighRules_124b {σ2 : St} (C : Cx g A p s m av meth c prog_9_method_8_code 6 "BellHammer$Tree" none) {k124 : Int32 → Int32 → St → Option (St)} (hk124 : ∀ (x3 : Int32) (x4 : Int32) (σ : St) (H : Heap) (locs : List Loc) (ls : Array Slot), k124 x3 x4 σ = some σ2 → Wd g (wX g q) A s σ H locs → lv_has ls 6 [(0, .ref (q 25)), (3, .int x3), (4, .int x4)] → WK p l e s m av below meth c 18 g (wX g q) A none σ2 H locs (F0 m 124 ls []))  {x3 : Int32} {x4 : Int32} {σ : St} {H : Heap} {locs : List Loc} {ls : Array Slot} (hf : f_Tree_weighRules_124b  k124 x3 x4 σ = some σ2) (w : Wd g (wX g q) A s σ H locs) (hl : lv_has ls 6 [(0, .ref (q 25)), (3, .int x3), (4, .int x4)]) : WK p l e s m av below meth c 18 g (wX g q) A none σ2 H locs (F0 m 124 ls []) := by
  obtain ⟨hx, hb, hml, hown, hts, hK, hA, hZ, hlocks, hr, hN⟩ := id C
  unfold f_Tree_weighRules_124b at hf
  refine lv_iload hx hb d_Tree_weighRules_124 (lv_at hl 2 rfl) ?_
  refine lv_iload_n hx hb d_Tree_weighRules_126 rfl (lv_at hl 1 rfl) ?_
  refine lv_icmp_ge (tgt := 168) hx hb d_Tree_weighRules_127 (by decide) (fun cd => ?_) (fun cd => ?_)
  · have hf := it_e cd hf
    cases some_e hf
    exact k_vret C w d_Tree_weighRules_168
  · have hf := if_e cd hf
    refine lv_aload_n hx hb d_Tree_weighRules_130 rfl (lv_at hl 0 rfl) ?_
    refine xg_25_blowsByRules C w k474 d_Tree_weighRules_131 ?_
    refine lv_iload hx hb d_Tree_weighRules_134 (lv_at hl 2 rfl) ?_
    obtain ⟨g_1, hf⟩ := gd_e hf
    refine xl_33 C w g_1 d_Tree_weighRules_136 ?_
    refine lv_aload_n hx hb d_Tree_weighRules_137 rfl (lv_at hl 0 rfl) ?_
    refine xg_25_winnerBlows C w k471 d_Tree_weighRules_138 ?_
    refine W.lcmp hx hb d_Tree_weighRules_141 ?_
    refine lv_if_le (tgt := 162) hx hb d_Tree_weighRules_142 (by decide) (fun cd => ?_) (fun cd => ?_)
    · have hf := it_e cd hf
      obtain ⟨x_2, ex_2⟩ : ∃ y : Int32, y = (x4 + 1) := ⟨_, rfl⟩
      have hf := lt_e ex_2 hf
      refine lv_iinc (v := x_2) (lv' := [(4, .int x_2), (0, .ref (q 25)), (3, .int x3)]) hx hb d_Tree_weighRules_162 hl (k := 2) rfl (by rw [ex_2]; rfl) (by decide) rfl (fun ls hl => ?_)
      refine lv_goto (tgt := 124) hx hb d_Tree_weighRules_165 (by decide) ?_
      exact hk124 x3 x_2 σ _ _ _ hf w (lv_sub hl [1, 2, 0] rfl)
    · have hf := if_e cd hf
      refine lv_aload_n hx hb d_Tree_weighRules_145 rfl (lv_at hl 0 rfl) ?_
      refine lv_iload hx hb d_Tree_weighRules_146 (lv_at hl 2 rfl) ?_
      refine xp_25_winner C w k469 d_Tree_weighRules_148 (fun σ_3 H locs eσ_3 w => ?_)
      have hf := lt_e eσ_3 hf
      refine lv_aload_n hx hb d_Tree_weighRules_151 rfl (lv_at hl 0 rfl) ?_
      refine lv_aload_n hx hb d_Tree_weighRules_152 rfl (lv_at hl 0 rfl) ?_
      refine xg_25_blowsByRules C w k474 d_Tree_weighRules_153 ?_
      refine lv_iload hx hb d_Tree_weighRules_156 (lv_at hl 2 rfl) ?_
      obtain ⟨g_4, hf⟩ := gd_e hf
      refine xl_33 C w g_4 d_Tree_weighRules_158 ?_
      refine xp_25_winnerBlows C w k471 d_Tree_weighRules_159 (fun σ_5 H locs eσ_5 w => ?_)
      have hf := lt_e eσ_5 hf
      obtain ⟨x_6, ex_6⟩ : ∃ y : Int32, y = (x4 + 1) := ⟨_, rfl⟩
      have hf := lt_e ex_6 hf
      refine lv_iinc (v := x_6) (lv' := [(4, .int x_6), (0, .ref (q 25)), (3, .int x3)]) hx hb d_Tree_weighRules_162 hl (k := 2) rfl (by rw [ex_6]; rfl) (by decide) rfl (fun ls hl => ?_)
      refine lv_goto (tgt := 124) hx hb d_Tree_weighRules_165 (by decide) ?_
      exact hk124 x3 x_6 σ_5 _ _ _ hf w (lv_sub hl [1, 2, 0] rfl)
set_option maxHeartbeats 4000000 in
set_option maxRecDepth 20000 in
theorem t_Tree_weighRules_124 {σ2 : St} (C : Cx g A p s m av meth c prog_9_method_8_code 6 "BellHammer$Tree" none)  : ∀ (n : Nat) (x3 : Int32) (x4 : Int32) (σ : St) (H : Heap) (locs : List Loc) (ls : Array Slot), f_Tree_weighRules_124   n x3 x4 σ = some σ2 → Wd g (wX g q) A s σ H locs → lv_has ls 6 [(0, .ref (q 25)), (3, .int x3), (4, .int x4)] → WK p l e s m av below meth c 18 g (wX g q) A none σ2 H locs (F0 m 124 ls []) := by
  intro n
  induction n with
  | zero => intro x3 x4 σ H locs ls hf; exact absurd hf (by intro z; cases z)
  | succ n ih => intro x3 x4 σ H locs ls hf w hl; exact t_Tree_weighRules_124b C  ih hf w hl
set_option maxHeartbeats 4000000 in
set_option maxRecDepth 20000 in
theorem t_Tree_weighRules_54b {σ2 : St} (C : Cx g A p s m av meth c prog_9_method_8_code 6 "BellHammer$Tree" none) {k23 : Int32 → Int32 → St → Option (St)} (hk23 : ∀ (x3 : Int32) (x4 : Int32) (σ : St) (H : Heap) (locs : List Loc) (ls : Array Slot), k23 x3 x4 σ = some σ2 → Wd g (wX g q) A s σ H locs → lv_has ls 6 [(0, .ref (q 25)), (1, .ref (q 34)), (2, .ref (q 15)), (3, .int x3), (4, .int x4)] → WK p l e s m av below meth c 18 g (wX g q) A none σ2 H locs (F0 m 23 ls [])) {k54 : Int32 → Int32 → Int32 → St → Option (St)} (hk54 : ∀ (x3 : Int32) (x4 : Int32) (x5 : Int32) (σ : St) (H : Heap) (locs : List Loc) (ls : Array Slot), k54 x3 x4 x5 σ = some σ2 → Wd g (wX g q) A s σ H locs → lv_has ls 6 [(0, .ref (q 25)), (1, .ref (q 34)), (2, .ref (q 15)), (3, .int x3), (4, .int x4), (5, .int x5)] → WK p l e s m av below meth c 18 g (wX g q) A none σ2 H locs (F0 m 54 ls []))  {x3 : Int32} {x4 : Int32} {x5 : Int32} {σ : St} {H : Heap} {locs : List Loc} {ls : Array Slot} (hf : f_Tree_weighRules_54b  k23 k54 x3 x4 x5 σ = some σ2) (w : Wd g (wX g q) A s σ H locs) (hl : lv_has ls 6 [(0, .ref (q 25)), (1, .ref (q 34)), (2, .ref (q 15)), (3, .int x3), (4, .int x4), (5, .int x5)]) : WK p l e s m av below meth c 18 g (wX g q) A none σ2 H locs (F0 m 54 ls []) := by
  obtain ⟨hx, hb, hml, hown, hts, hK, hA, hZ, hlocks, hr, hN⟩ := id C
  unfold f_Tree_weighRules_54b at hf
  refine lv_iload hx hb d_Tree_weighRules_54 (lv_at hl 5 rfl) ?_
  refine lv_iload_n hx hb d_Tree_weighRules_56 rfl (lv_at hl 3 rfl) ?_
  refine lv_icmp_ge (tgt := 100) hx hb d_Tree_weighRules_57 (by decide) (fun cd => ?_) (fun cd => ?_)
  · have hf := it_e cd hf
    obtain ⟨x_1, ex_1⟩ : ∃ y : Int32, y = (x4 + 1) := ⟨_, rfl⟩
    have hf := lt_e ex_1 hf
    refine lv_iinc (v := x_1) (lv' := [(4, .int x_1), (0, .ref (q 25)), (1, .ref (q 34)), (2, .ref (q 15)), (3, .int x3), (5, .int x5)]) hx hb d_Tree_weighRules_100 hl (k := 4) rfl (by rw [ex_1]; rfl) (by decide) rfl (fun ls hl => ?_)
    refine lv_goto (tgt := 23) hx hb d_Tree_weighRules_103 (by decide) ?_
    exact hk23 x3 x_1 σ _ _ _ hf w (lv_sub hl [1, 2, 3, 4, 0] rfl)
  · have hf := if_e cd hf
    refine lv_aload_n hx hb d_Tree_weighRules_60 rfl (lv_at hl 0 rfl) ?_
    refine xg_25_knownBlows C w k472 d_Tree_weighRules_61 ?_
    refine lv_ldc2 (v := (-1)) hx hb hown (hts _ k895) d_Tree_weighRules_64 ?_
    obtain ⟨σ_3, h_2, hf⟩ := bp_e hf
    refine k_callS (As := [.ref (q 31), .long (-1)]) (rest := []) C w (c_Arrays_fill_J_2 (q := q) h_2) cv_Arrays_fill_J k888 (by decide) hl.1 rfl (Nat.le_of_ble_eq_true rfl) d_Tree_weighRules_67 (fun H locs w => ?_)
    show WK p l e s m av below meth c 18 g (wX g q) A none σ2 H locs (F0 m 70 ls [])
    refine lv_aload_n hx hb d_Tree_weighRules_70 rfl (lv_at hl 0 rfl) ?_
    refine xg_25_blowsByRules C w k474 d_Tree_weighRules_71 ?_
    refine lv_iload hx hb d_Tree_weighRules_74 (lv_at hl 5 rfl) ?_
    refine lv_dup2_11 hx hb d_Tree_weighRules_76 rfl rfl ?_
    obtain ⟨g_4, hf⟩ := gd_e hf
    refine xl_33 C w g_4 d_Tree_weighRules_77 ?_
    refine lv_aload_n hx hb d_Tree_weighRules_78 rfl (lv_at hl 0 rfl) ?_
    refine lv_aload_n hx hb d_Tree_weighRules_79 rfl (lv_at hl 1 rfl) ?_
    refine lv_iload hx hb d_Tree_weighRules_80 (lv_at hl 5 rfl) ?_
    refine lv_iconst (v := 0) hx hb d_Tree_weighRules_82 (by decide) ?_
    refine lv_iconst (v := 0) hx hb d_Tree_weighRules_83 (by decide) ?_
    refine lv_iconst (v := 0) hx hb d_Tree_weighRules_84 (by decide) ?_
    refine lv_iconst (v := 0) hx hb d_Tree_weighRules_85 (by decide) ?_
    refine lv_ldc2 (v := 12960000) hx hb hown (hts _ k835) d_Tree_weighRules_86 ?_
    obtain ⟨r_6, σ_7, h_5, hf⟩ := bd_e hf
    refine k_callV (As := [.ref (q 34), .int x5, .int 0, .int 0, .int 0, .int 0, .long 12960000]) (rest := [.long (sB σ_3 1 x5.toNatClampNeg), .int x5, .ref (q 33)]) C w (c_Tree_blowsFrom (q := q) 6 _ _ _ _ _ _ _ _ _ h_5) cv_Tree_blowsFrom k896 (xr_25 C w) (by decide) hl.1 rfl (Nat.le_of_ble_eq_true rfl) d_Tree_weighRules_89 (fun H locs w => ?_)
    show WK p l e s m av below meth c 18 g (wX g q) A none σ2 H locs (F0 m 92 ls [.long r_6, .long (sB σ_3 1 x5.toNatClampNeg), .int x5, .ref (q 33)])
    refine lv_ladd hx hb d_Tree_weighRules_92 ?_
    obtain ⟨g_8, hf⟩ := gd_e hf
    refine xs_33 C w g_8 d_Tree_weighRules_93 (fun σ_9 H locs eσ_9 w => ?_)
    have hf := lt_e eσ_9 hf
    obtain ⟨x_10, ex_10⟩ : ∃ y : Int32, y = (x5 + 1) := ⟨_, rfl⟩
    have hf := lt_e ex_10 hf
    refine lv_iinc (v := x_10) (lv' := [(5, .int x_10), (0, .ref (q 25)), (1, .ref (q 34)), (2, .ref (q 15)), (3, .int x3), (4, .int x4)]) hx hb d_Tree_weighRules_94 hl (k := 5) rfl (by rw [ex_10]; rfl) (by decide) rfl (fun ls hl => ?_)
    refine lv_goto (tgt := 54) hx hb d_Tree_weighRules_97 (by decide) ?_
    exact hk54 x3 x4 x_10 σ_9 _ _ _ hf w (lv_sub hl [1, 2, 3, 4, 5, 0] rfl)
set_option maxHeartbeats 4000000 in
set_option maxRecDepth 20000 in
theorem t_Tree_weighRules_54 {σ2 : St} (C : Cx g A p s m av meth c prog_9_method_8_code 6 "BellHammer$Tree" none) {k23 : Int32 → Int32 → St → Option (St)} (hk23 : ∀ (x3 : Int32) (x4 : Int32) (σ : St) (H : Heap) (locs : List Loc) (ls : Array Slot), k23 x3 x4 σ = some σ2 → Wd g (wX g q) A s σ H locs → lv_has ls 6 [(0, .ref (q 25)), (1, .ref (q 34)), (2, .ref (q 15)), (3, .int x3), (4, .int x4)] → WK p l e s m av below meth c 18 g (wX g q) A none σ2 H locs (F0 m 23 ls []))  : ∀ (n : Nat) (x3 : Int32) (x4 : Int32) (x5 : Int32) (σ : St) (H : Heap) (locs : List Loc) (ls : Array Slot), f_Tree_weighRules_54  k23 n x3 x4 x5 σ = some σ2 → Wd g (wX g q) A s σ H locs → lv_has ls 6 [(0, .ref (q 25)), (1, .ref (q 34)), (2, .ref (q 15)), (3, .int x3), (4, .int x4), (5, .int x5)] → WK p l e s m av below meth c 18 g (wX g q) A none σ2 H locs (F0 m 54 ls []) := by
  intro n
  induction n with
  | zero => intro x3 x4 x5 σ H locs ls hf; exact absurd hf (by intro z; cases z)
  | succ n ih => intro x3 x4 x5 σ H locs ls hf w hl; exact t_Tree_weighRules_54b C hk23 ih hf w hl
set_option maxHeartbeats 4000000 in
set_option maxRecDepth 20000 in
theorem t_Tree_weighRules_23b {σ2 : St} (C : Cx g A p s m av meth c prog_9_method_8_code 6 "BellHammer$Tree" none) {k23 : Int32 → Int32 → St → Option (St)} (hk23 : ∀ (x3 : Int32) (x4 : Int32) (σ : St) (H : Heap) (locs : List Loc) (ls : Array Slot), k23 x3 x4 σ = some σ2 → Wd g (wX g q) A s σ H locs → lv_has ls 6 [(0, .ref (q 25)), (1, .ref (q 34)), (2, .ref (q 15)), (3, .int x3), (4, .int x4)] → WK p l e s m av below meth c 18 g (wX g q) A none σ2 H locs (F0 m 23 ls []))  {x3 : Int32} {x4 : Int32} {σ : St} {H : Heap} {locs : List Loc} {ls : Array Slot} (hf : f_Tree_weighRules_23b  k23 x3 x4 σ = some σ2) (w : Wd g (wX g q) A s σ H locs) (hl : lv_has ls 6 [(0, .ref (q 25)), (1, .ref (q 34)), (2, .ref (q 15)), (3, .int x3), (4, .int x4)]) : WK p l e s m av below meth c 18 g (wX g q) A none σ2 H locs (F0 m 23 ls []) := by
  obtain ⟨hx, hb, hml, hown, hts, hK, hA, hZ, hlocks, hr, hN⟩ := id C
  unfold f_Tree_weighRules_23b at hf
  refine lv_iload hx hb d_Tree_weighRules_23 (lv_at hl 4 rfl) ?_
  refine lv_aload_n hx hb d_Tree_weighRules_25 rfl (lv_at hl 1 rfl) ?_
  refine xg_34_triers C w k275 d_Tree_weighRules_26 ?_
  refine lv_icmp_ge (tgt := 106) hx hb d_Tree_weighRules_29 (by decide) (fun cd => ?_) (fun cd => ?_)
  · have hf := it_e cd hf
    refine lv_aload_n hx hb d_Tree_weighRules_106 rfl (lv_at hl 0 rfl) ?_
    refine lv_iconst (v := 0) hx hb d_Tree_weighRules_107 (by decide) ?_
    refine xp_25_winner C w k469 d_Tree_weighRules_108 (fun σ_1 H locs eσ_1 w => ?_)
    have hf := lt_e eσ_1 hf
    refine lv_aload_n hx hb d_Tree_weighRules_111 rfl (lv_at hl 0 rfl) ?_
    refine lv_aload_n hx hb d_Tree_weighRules_112 rfl (lv_at hl 0 rfl) ?_
    refine xg_25_blowsByRules C w k474 d_Tree_weighRules_113 ?_
    refine lv_iconst (v := 0) hx hb d_Tree_weighRules_116 (by decide) ?_
    refine xl_33 C w (by decide) d_Tree_weighRules_117 ?_
    refine xp_25_winnerBlows C w k471 d_Tree_weighRules_118 (fun σ_2 H locs eσ_2 w => ?_)
    have hf := lt_e eσ_2 hf
    refine lv_iconst (v := 1) hx hb d_Tree_weighRules_121 (by decide) ?_
    refine lv_istore (lv' := [(4, .int 1), (0, .ref (q 25)), (1, .ref (q 34)), (2, .ref (q 15)), (3, .int x3)]) hx hb d_Tree_weighRules_122 hl (by decide) rfl (fun ls hl => ?_)
    exact t_Tree_weighRules_124 C  FU x3 1 σ_2 _ _ _ hf w (lv_sub hl [1, 4, 0] rfl)
  · have hf := if_e cd hf
    refine lv_aload_n hx hb d_Tree_weighRules_32 rfl (lv_at hl 0 rfl) ?_
    refine xg_25_turn C w k460 d_Tree_weighRules_33 ?_
    refine lv_aload_n hx hb d_Tree_weighRules_36 rfl (lv_at hl 1 rfl) ?_
    refine lv_iload hx hb d_Tree_weighRules_37 (lv_at hl 4 rfl) ?_
    refine lv_aload_n hx hb d_Tree_weighRules_39 rfl (lv_at hl 2 rfl) ?_
    obtain ⟨σ_4, h_3, hf⟩ := bp_e hf
    refine k_callV (As := [.ref (q 34), .int x4, .ref (q 15)]) (rest := []) C w (c_Turn_load_2 (q := q) h_3) cv_Turn_load k891 (xr_26 C w) (by decide) hl.1 rfl (Nat.le_of_ble_eq_true rfl) d_Tree_weighRules_40 (fun H locs w => ?_)
    show WK p l e s m av below meth c 18 g (wX g q) A none σ2 H locs (F0 m 43 ls [])
    refine lv_aload_n hx hb d_Tree_weighRules_43 rfl (lv_at hl 0 rfl) ?_
    refine xg_25_knownRules C w k473 d_Tree_weighRules_44 ?_
    refine lv_iconst (v := (-1)) hx hb d_Tree_weighRules_47 (by decide) ?_
    obtain ⟨σ_6, h_5, hf⟩ := bp_e hf
    refine k_callS (As := [.ref (q 32), .int (-1)]) (rest := []) C w (c_Arrays_fill_I (q := q) h_5) cv_Arrays_fill_I k892 (by decide) hl.1 rfl (Nat.le_of_ble_eq_true rfl) d_Tree_weighRules_48 (fun H locs w => ?_)
    show WK p l e s m av below meth c 18 g (wX g q) A none σ2 H locs (F0 m 51 ls [])
    refine lv_iconst (v := 0) hx hb d_Tree_weighRules_51 (by decide) ?_
    refine lv_istore (lv' := [(5, .int 0), (0, .ref (q 25)), (1, .ref (q 34)), (2, .ref (q 15)), (3, .int x3), (4, .int x4)]) hx hb d_Tree_weighRules_52 hl (by decide) rfl (fun ls hl => ?_)
    exact t_Tree_weighRules_54 C hk23 FU x3 x4 0 σ_6 _ _ _ hf w (lv_sub hl [1, 2, 3, 4, 5, 0] rfl)
set_option maxHeartbeats 4000000 in
set_option maxRecDepth 20000 in
theorem t_Tree_weighRules_23 {σ2 : St} (C : Cx g A p s m av meth c prog_9_method_8_code 6 "BellHammer$Tree" none)  : ∀ (n : Nat) (x3 : Int32) (x4 : Int32) (σ : St) (H : Heap) (locs : List Loc) (ls : Array Slot), f_Tree_weighRules_23   n x3 x4 σ = some σ2 → Wd g (wX g q) A s σ H locs → lv_has ls 6 [(0, .ref (q 25)), (1, .ref (q 34)), (2, .ref (q 15)), (3, .int x3), (4, .int x4)] → WK p l e s m av below meth c 18 g (wX g q) A none σ2 H locs (F0 m 23 ls []) := by
  intro n
  induction n with
  | zero => intro x3 x4 σ H locs ls hf; exact absurd hf (by intro z; cases z)
  | succ n ih => intro x3 x4 σ H locs ls hf w hl; exact t_Tree_weighRules_23b C  ih hf w hl
set_option maxHeartbeats 4000000 in
set_option maxRecDepth 20000 in
theorem c_Tree_weighRules {l : Launch} {g : GX} {q : Nat → Nat}  {σ : St} {σ2 : St} (hf : f_Tree_weighRules   σ = some σ2) : KK l y_Tree_weighRules prog_9_method_8_code 6 none 18 g (wX g q) σ [.ref (q 25), .ref (q 34), .ref (q 15)] none (wX g q) σ2 := by
  refine KK_of (plainFor_of_name (by decide)) (Nat.le_of_ble_eq_true rfl) (fun p e s m below meth c A ls C w hl => ?_)
  have hl : lv_has ls 6 [(0, .ref (q 25)), (1, .ref (q 34)), (2, .ref (q 15))] := hl
  obtain ⟨hx, hb, hml, hown, hts, hK, hA, hZ, hlocks, hr, hN⟩ := id C
  unfold f_Tree_weighRules at hf
  refine lv_iconst (v := 1) hx hb d_Tree_weighRules_0 (by decide) ?_
  refine lv_aload_n hx hb d_Tree_weighRules_1 rfl (lv_at hl 1 rfl) ?_
  refine xg_34_rules C w k281 d_Tree_weighRules_2 ?_
  refine lv_bipush (v := 6) hx hb d_Tree_weighRules_5 (by decide) ?_
  refine r_min C hl.1 (by omega) (Nat.le_of_ble_eq_true rfl) k852 d_Tree_weighRules_7 ?_
  refine lv_ishl hx hb d_Tree_weighRules_10 ?_
  refine lv_topi (fun x_1 ex_1 => ?_)
  have hf := lt_e ex_1 hf
  refine lv_istore_n (lv' := [(3, .int x_1), (0, .ref (q 25)), (1, .ref (q 34)), (2, .ref (q 15))]) hx hb d_Tree_weighRules_11 rfl hl (by decide) rfl (fun ls hl => ?_)
  refine lv_aload_n hx hb d_Tree_weighRules_12 rfl (lv_at hl 1 rfl) ?_
  refine xg_25_blowsByRules C w k474 d_Tree_weighRules_13 ?_
  refine lv_lconst (v := 0) hx hb d_Tree_weighRules_16 (by decide) ?_
  obtain ⟨σ_3, h_2, hf⟩ := bp_e hf
  refine k_callS (As := [.ref (q 33), .long 0]) (rest := []) C w (c_Arrays_fill_J (q := q) h_2) cv_Arrays_fill_J k888 (by decide) hl.1 rfl (Nat.le_of_ble_eq_true rfl) d_Tree_weighRules_17 (fun H locs w => ?_)
  show WK p l e s m _ below meth c 18 g (wX g q) A none σ2 H locs (F0 m 20 ls [])
  refine lv_iconst (v := 0) hx hb d_Tree_weighRules_20 (by decide) ?_
  refine lv_istore (lv' := [(4, .int 0), (3, .int x_1), (0, .ref (q 25)), (1, .ref (q 34)), (2, .ref (q 15))]) hx hb d_Tree_weighRules_21 hl (by decide) rfl (fun ls hl => ?_)
  exact t_Tree_weighRules_23 C  FU x_1 0 σ_3 _ _ _ hf w (lv_sub hl [2, 3, 4, 1, 0] rfl)
def f_Tree_winnerLeaves (x1 : Int32) (σ : St) : Option (Int32) :=
  bp (f_Tree_thousandths ((sJ σ 4) * (x1).toInt64) σ) fun r_2 =>
  some r_2
set_option maxHeartbeats 4000000 in
set_option maxRecDepth 20000 in
theorem c_Tree_winnerLeaves {l : Launch} {g : GX} {q : Nat → Nat} {x1 : Int32}  {σ : St} {r : Int32} (hf : f_Tree_winnerLeaves  x1 σ = some r) : KK l y_Tree_winnerLeaves prog_9_method_4_code 2 (some .int) 1 g (wX g q) σ [.ref (q 25), .int x1] (some (.int r)) (wX g q) σ := by
  refine KK_of (plainFor_of_name (by decide)) (Nat.le_of_ble_eq_true rfl) (fun p e s m below meth c A ls C w hl => ?_)
  have hl : lv_has ls 2 [(0, .ref (q 25)), (1, .int x1)] := hl
  obtain ⟨hx, hb, hml, hown, hts, hK, hA, hZ, hlocks, hr, hN⟩ := id C
  unfold f_Tree_winnerLeaves at hf
  refine lv_aload_n hx hb d_Tree_winnerLeaves_0 rfl (lv_at hl 0 rfl) ?_
  refine xg_25_winnerBlows C w k471 d_Tree_winnerLeaves_1 ?_
  refine lv_iload_n hx hb d_Tree_winnerLeaves_4 rfl (lv_at hl 1 rfl) ?_
  refine lv_i2l hx hb d_Tree_winnerLeaves_5 rfl ?_
  refine lv_lmul hx hb d_Tree_winnerLeaves_6 ?_
  obtain ⟨r_2, h_1, hf⟩ := bp_e hf
  refine k_callS (As := [.long ((sJ σ 4) * (x1).toInt64)]) (rest := []) C w (c_Tree_thousandths (q := q) h_1) cv_Tree_thousandths k876 (by decide) hl.1 rfl (Nat.le_of_ble_eq_true rfl) d_Tree_winnerLeaves_7 (fun H locs w => ?_)
  show WK p l e s m _ below meth c 1 g (wX g q) A (some (.int r)) σ H locs (F0 m 10 ls [.int r_2])
  cases some_e hf
  exact k_iret C w d_Tree_winnerLeaves_10
def f_BH_best_11 (x1 : Int32) (σ : St) : Option (Int32 × St) :=
  bp (f_Tree_weighRules σ) fun σ_2 =>
  if x1 = 0 then
    some ((sI σ_2 39), σ_2)
  else
    bp (f_Tree_winnerLeaves (sA σ_2 9 (2 : Int32).toNatClampNeg) σ_2) fun r_4 =>
    some (r_4, σ_2)
def f_BH_best (x1 : Int32) (σ : St) : Option (Int32 × St) :=
  if x1 = 0 then
    f_BH_best_11 x1 σ
  else
    if x1 = 1 then
      f_BH_best_11 x1 σ
    else
      some ((-1), σ)
set_option maxHeartbeats 4000000 in
set_option maxRecDepth 20000 in
theorem t_BH_best_11 {r : Int32} {σ2 : St} (C : Cx g A p s m av meth c prog_1_method_16_code 2 "BellHammer" (some .int))  {x1 : Int32} {σ : St} {H : Heap} {locs : List Loc} {ls : Array Slot} (hf : f_BH_best_11   x1 σ = some (r, σ2)) (w : Wd g (wX g q) A s σ H locs) (hl : lv_has ls 2 [(0, .ref (q 0)), (1, .int x1)]) : WK p l e s m av below meth c 19 g (wX g q) A (some (.int r)) σ2 H locs (F0 m 11 ls []) := by
  obtain ⟨hx, hb, hml, hown, hts, hK, hA, hZ, hlocks, hr, hN⟩ := id C
  unfold f_BH_best_11 at hf
  refine lv_aload_n hx hb d_BH_best_11 rfl (lv_at hl 0 rfl) ?_
  refine xg_0_tree C w k510 d_BH_best_12 ?_
  refine lv_aload_n hx hb d_BH_best_15 rfl (lv_at hl 0 rfl) ?_
  refine xg_0_fair C w k511 d_BH_best_16 ?_
  refine lv_aload_n hx hb d_BH_best_19 rfl (lv_at hl 0 rfl) ?_
  refine xg_0_book C w k507 d_BH_best_20 ?_
  refine xg_14_now C w k342 d_BH_best_23 ?_
  obtain ⟨σ_2, h_1, hf⟩ := bp_e hf
  refine k_callV (As := [.ref (q 34), .ref (q 15)]) (rest := []) C w (c_Tree_weighRules (q := q) h_1) cv_Tree_weighRules k884 (xr_25 C w) (by decide) hl.1 rfl (Nat.le_of_ble_eq_true rfl) d_BH_best_26 (fun H locs w => ?_)
  show WK p l e s m av below meth c 19 g (wX g q) A (some (.int r)) σ2 H locs (F0 m 29 ls [])
  refine lv_iload_n hx hb d_BH_best_29 rfl (lv_at hl 1 rfl) ?_
  refine lv_if_ne (tgt := 43) hx hb d_BH_best_30 (by decide) (fun cd => ?_) (fun cd => ?_)
  · have hf := if_e cd hf
    refine lv_aload_n hx hb d_BH_best_43 rfl (lv_at hl 0 rfl) ?_
    refine xg_0_tree C w k510 d_BH_best_44 ?_
    refine lv_aload_n hx hb d_BH_best_47 rfl (lv_at hl 0 rfl) ?_
    refine xg_0_book C w k507 d_BH_best_48 ?_
    refine xg_14_now C w k342 d_BH_best_51 ?_
    refine lv_iconst (v := 2) hx hb d_BH_best_54 (by decide) ?_
    refine xl_15 C w (by decide) d_BH_best_55 ?_
    obtain ⟨r_4, h_3, hf⟩ := bp_e hf
    refine k_callV (As := [.int (sA σ_2 9 (2 : Int32).toNatClampNeg)]) (rest := []) C w (c_Tree_winnerLeaves (q := q) h_3) cv_Tree_winnerLeaves k910 (xr_25 C w) (by decide) hl.1 rfl (Nat.le_of_ble_eq_true rfl) d_BH_best_56 (fun H locs w => ?_)
    show WK p l e s m av below meth c 19 g (wX g q) A (some (.int r)) σ2 H locs (F0 m 59 ls [.int r_4])
    obtain ⟨rfl, rfl⟩ := some2_e hf
    exact k_iret C w d_BH_best_59
  · have hf := it_e cd hf
    refine lv_aload_n hx hb d_BH_best_33 rfl (lv_at hl 0 rfl) ?_
    refine xg_0_tree C w k510 d_BH_best_34 ?_
    refine xg_25_winner C w k470 d_BH_best_37 ?_
    refine lv_goto (tgt := 59) hx hb d_BH_best_40 (by decide) ?_
    obtain ⟨rfl, rfl⟩ := some2_e hf
    exact k_iret C w d_BH_best_59
set_option maxHeartbeats 4000000 in
set_option maxRecDepth 20000 in
theorem c_BH_best {l : Launch} {g : GX} {q : Nat → Nat} {x1 : Int32}  {σ : St} {r : Int32} {σ2 : St} (hf : f_BH_best  x1 σ = some (r, σ2)) : KK l y_BH_best prog_1_method_16_code 2 (some .int) 19 g (wX g q) σ [.ref (q 0), .int x1] (some (.int r)) (wX g q) σ2 := by
  refine KK_of (plainFor_of_name (by decide)) (Nat.le_of_ble_eq_true rfl) (fun p e s m below meth c A ls C w hl => ?_)
  have hl : lv_has ls 2 [(0, .ref (q 0)), (1, .int x1)] := hl
  obtain ⟨hx, hb, hml, hown, hts, hK, hA, hZ, hlocks, hr, hN⟩ := id C
  unfold f_BH_best at hf
  refine lv_iload_n hx hb d_BH_best_0 rfl (lv_at hl 1 rfl) ?_
  refine lv_if_eq (tgt := 11) hx hb d_BH_best_1 (by decide) (fun cd => ?_) (fun cd => ?_)
  · have hf := it_e cd hf
    exact t_BH_best_11 C  hf w (lv_sub hl [0, 1] rfl)
  · have hf := if_e cd hf
    refine lv_iload_n hx hb d_BH_best_4 rfl (lv_at hl 1 rfl) ?_
    refine lv_iconst (v := 1) hx hb d_BH_best_5 (by decide) ?_
    refine lv_icmp_eq (tgt := 11) hx hb d_BH_best_6 (by decide) (fun cd => ?_) (fun cd => ?_)
    · have hf := it_e cd hf
      exact t_BH_best_11 C  hf w (lv_sub hl [0, 1] rfl)
    · have hf := if_e cd hf
      refine lv_iconst (v := (-1)) hx hb d_BH_best_9 (by decide) ?_
      obtain ⟨rfl, rfl⟩ := some2_e hf
      exact k_iret C w d_BH_best_10
def f_Tree_weighBells_26b (k14 : Int32 → St → Option (St)) (k26 : Int32 → Int64 → Int32 → St → Option (St)) (x3 : Int32) (x4 : Int64) (x6 : Int32) (σ : St) : Option (St) :=
  if (sI σ 54) ≤ x6 then
    if (lg_cmp x4 (sJ σ 4)) ≤ 0 then
      lt ((x3 + 1)) fun x_1 =>
      k14 x_1 σ
    else
      lt (uI σ 39 x3) fun σ_2 =>
      lt (uJ σ_2 4 x4) fun σ_3 =>
      lt ((x3 + 1)) fun x_4 =>
      k14 x_4 σ_3
  else
    bp (f_Turn_load_2 x6 σ) fun σ_6 =>
    lt (uI σ_6 46 x3) fun σ_7 =>
    bp (f_Arrays_fill_J_2 (-1) σ_7) fun σ_9 =>
    bd (f_Tree_blowsFrom 6 0 0 0 0 0 12960000 σ_9) fun r_11 σ_12 =>
    lt ((x4 + r_11)) fun x_13 =>
    lt ((x6 + 1)) fun x_14 =>
    k26 x3 x_13 x_14 σ_12
def f_Tree_weighBells_26 (k14 : Int32 → St → Option (St)) : Nat → Int32 → Int64 → Int32 → St → Option (St)
  | 0 => fun _ _ _ _ => none
  | n + 1 => f_Tree_weighBells_26b  k14 (f_Tree_weighBells_26  k14 n)
def f_Tree_weighBells_14b (k14 : Int32 → St → Option (St)) (x3 : Int32) (σ : St) : Option (St) :=
  if 99 < x3 then
    some σ
  else
    f_Tree_weighBells_26 k14 FU x3 0 0 σ
def f_Tree_weighBells_14 : Nat → Int32 → St → Option (St)
  | 0 => fun _ _ => none
  | n + 1 => f_Tree_weighBells_14b   (f_Tree_weighBells_14   n)
def f_Tree_weighBells (σ : St) : Option (St) :=
  lt (uI σ 39 (-1)) fun σ_1 =>
  lt (uJ σ_1 4 (-1)) fun σ_2 =>
  f_Tree_weighBells_14 FU 1 σ_2
set_option maxHeartbeats 4000000 in
set_option maxRecDepth 20000 in
theorem t_Tree_weighBells_26b {σ2 : St} (C : Cx g A p s m av meth c prog_9_method_9_code 7 "BellHammer$Tree" none) {k14 : Int32 → St → Option (St)} (hk14 : ∀ (x3 : Int32) (σ : St) (H : Heap) (locs : List Loc) (ls : Array Slot), k14 x3 σ = some σ2 → Wd g (wX g q) A s σ H locs → lv_has ls 7 [(0, .ref (q 25)), (1, .ref (q 34)), (2, .ref (q 15)), (3, .int x3)] → WK p l e s m av below meth c 18 g (wX g q) A none σ2 H locs (F0 m 14 ls [])) {k26 : Int32 → Int64 → Int32 → St → Option (St)} (hk26 : ∀ (x3 : Int32) (x4 : Int64) (x6 : Int32) (σ : St) (H : Heap) (locs : List Loc) (ls : Array Slot), k26 x3 x4 x6 σ = some σ2 → Wd g (wX g q) A s σ H locs → lv_has ls 7 [(0, .ref (q 25)), (1, .ref (q 34)), (2, .ref (q 15)), (3, .int x3), (4, .long x4), (6, .int x6)] → WK p l e s m av below meth c 18 g (wX g q) A none σ2 H locs (F0 m 26 ls []))  {x3 : Int32} {x4 : Int64} {x6 : Int32} {σ : St} {H : Heap} {locs : List Loc} {ls : Array Slot} (hf : f_Tree_weighBells_26b  k14 k26 x3 x4 x6 σ = some σ2) (w : Wd g (wX g q) A s σ H locs) (hl : lv_has ls 7 [(0, .ref (q 25)), (1, .ref (q 34)), (2, .ref (q 15)), (3, .int x3), (4, .long x4), (6, .int x6)]) : WK p l e s m av below meth c 18 g (wX g q) A none σ2 H locs (F0 m 26 ls []) := by
  obtain ⟨hx, hb, hml, hown, hts, hK, hA, hZ, hlocks, hr, hN⟩ := id C
  unfold f_Tree_weighBells_26b at hf
  refine lv_iload hx hb d_Tree_weighBells_26 (lv_at hl 5 rfl) ?_
  refine lv_aload_n hx hb d_Tree_weighBells_28 rfl (lv_at hl 1 rfl) ?_
  refine xg_34_triers C w k275 d_Tree_weighBells_29 ?_
  refine lv_icmp_ge (tgt := 88) hx hb d_Tree_weighBells_32 (by decide) (fun cd => ?_) (fun cd => ?_)
  · have hf := it_e cd hf
    refine lv_lload hx hb d_Tree_weighBells_88 (lv_at hl 4 rfl) ?_
    refine lv_aload_n hx hb d_Tree_weighBells_90 rfl (lv_at hl 0 rfl) ?_
    refine xg_25_winnerBlows C w k471 d_Tree_weighBells_91 ?_
    refine W.lcmp hx hb d_Tree_weighBells_94 ?_
    refine lv_if_le (tgt := 109) hx hb d_Tree_weighBells_95 (by decide) (fun cd => ?_) (fun cd => ?_)
    · have hf := it_e cd hf
      obtain ⟨x_1, ex_1⟩ : ∃ y : Int32, y = (x3 + 1) := ⟨_, rfl⟩
      have hf := lt_e ex_1 hf
      refine lv_iinc (v := x_1) (lv' := [(3, .int x_1), (0, .ref (q 25)), (1, .ref (q 34)), (2, .ref (q 15)), (4, .long x4), (6, .int x6)]) hx hb d_Tree_weighBells_109 hl (k := 3) rfl (by rw [ex_1]; rfl) (by decide) rfl (fun ls hl => ?_)
      refine lv_goto (tgt := 14) hx hb d_Tree_weighBells_112 (by decide) ?_
      exact hk14 x_1 σ _ _ _ hf w (lv_sub hl [1, 2, 3, 0] rfl)
    · have hf := if_e cd hf
      refine lv_aload_n hx hb d_Tree_weighBells_98 rfl (lv_at hl 0 rfl) ?_
      refine lv_iload_n hx hb d_Tree_weighBells_99 rfl (lv_at hl 3 rfl) ?_
      refine xp_25_winner C w k469 d_Tree_weighBells_100 (fun σ_2 H locs eσ_2 w => ?_)
      have hf := lt_e eσ_2 hf
      refine lv_aload_n hx hb d_Tree_weighBells_103 rfl (lv_at hl 0 rfl) ?_
      refine lv_lload hx hb d_Tree_weighBells_104 (lv_at hl 4 rfl) ?_
      refine xp_25_winnerBlows C w k471 d_Tree_weighBells_106 (fun σ_3 H locs eσ_3 w => ?_)
      have hf := lt_e eσ_3 hf
      obtain ⟨x_4, ex_4⟩ : ∃ y : Int32, y = (x3 + 1) := ⟨_, rfl⟩
      have hf := lt_e ex_4 hf
      refine lv_iinc (v := x_4) (lv' := [(3, .int x_4), (0, .ref (q 25)), (1, .ref (q 34)), (2, .ref (q 15)), (4, .long x4), (6, .int x6)]) hx hb d_Tree_weighBells_109 hl (k := 3) rfl (by rw [ex_4]; rfl) (by decide) rfl (fun ls hl => ?_)
      refine lv_goto (tgt := 14) hx hb d_Tree_weighBells_112 (by decide) ?_
      exact hk14 x_4 σ_3 _ _ _ hf w (lv_sub hl [1, 2, 3, 0] rfl)
  · have hf := if_e cd hf
    refine lv_aload_n hx hb d_Tree_weighBells_35 rfl (lv_at hl 0 rfl) ?_
    refine xg_25_turn C w k460 d_Tree_weighBells_36 ?_
    refine lv_aload_n hx hb d_Tree_weighBells_39 rfl (lv_at hl 1 rfl) ?_
    refine lv_iload hx hb d_Tree_weighBells_40 (lv_at hl 5 rfl) ?_
    refine lv_aload_n hx hb d_Tree_weighBells_42 rfl (lv_at hl 2 rfl) ?_
    obtain ⟨σ_6, h_5, hf⟩ := bp_e hf
    refine k_callV (As := [.ref (q 34), .int x6, .ref (q 15)]) (rest := []) C w (c_Turn_load_2 (q := q) h_5) cv_Turn_load k891 (xr_26 C w) (by decide) hl.1 rfl (Nat.le_of_ble_eq_true rfl) d_Tree_weighBells_43 (fun H locs w => ?_)
    show WK p l e s m av below meth c 18 g (wX g q) A none σ2 H locs (F0 m 46 ls [])
    refine lv_aload_n hx hb d_Tree_weighBells_46 rfl (lv_at hl 0 rfl) ?_
    refine xg_25_turn C w k460 d_Tree_weighBells_47 ?_
    refine lv_iload_n hx hb d_Tree_weighBells_50 rfl (lv_at hl 3 rfl) ?_
    refine xp_26_bell C w k414 d_Tree_weighBells_51 (fun σ_7 H locs eσ_7 w => ?_)
    have hf := lt_e eσ_7 hf
    refine lv_aload_n hx hb d_Tree_weighBells_54 rfl (lv_at hl 0 rfl) ?_
    refine xg_25_knownBlows C w k472 d_Tree_weighBells_55 ?_
    refine lv_ldc2 (v := (-1)) hx hb hown (hts _ k895) d_Tree_weighBells_58 ?_
    obtain ⟨σ_9, h_8, hf⟩ := bp_e hf
    refine k_callS (As := [.ref (q 31), .long (-1)]) (rest := []) C w (c_Arrays_fill_J_2 (q := q) h_8) cv_Arrays_fill_J k888 (by decide) hl.1 rfl (Nat.le_of_ble_eq_true rfl) d_Tree_weighBells_61 (fun H locs w => ?_)
    show WK p l e s m av below meth c 18 g (wX g q) A none σ2 H locs (F0 m 64 ls [])
    refine lv_lload hx hb d_Tree_weighBells_64 (lv_at hl 4 rfl) ?_
    refine lv_aload_n hx hb d_Tree_weighBells_66 rfl (lv_at hl 0 rfl) ?_
    refine lv_aload_n hx hb d_Tree_weighBells_67 rfl (lv_at hl 1 rfl) ?_
    refine lv_iconst (v := 0) hx hb d_Tree_weighBells_68 (by decide) ?_
    refine lv_iconst (v := 0) hx hb d_Tree_weighBells_69 (by decide) ?_
    refine lv_iconst (v := 0) hx hb d_Tree_weighBells_70 (by decide) ?_
    refine lv_iconst (v := 0) hx hb d_Tree_weighBells_71 (by decide) ?_
    refine lv_iconst (v := 0) hx hb d_Tree_weighBells_72 (by decide) ?_
    refine lv_ldc2 (v := 12960000) hx hb hown (hts _ k835) d_Tree_weighBells_73 ?_
    obtain ⟨r_11, σ_12, h_10, hf⟩ := bd_e hf
    refine k_callV (As := [.ref (q 34), .int 0, .int 0, .int 0, .int 0, .int 0, .long 12960000]) (rest := [.long x4]) C w (c_Tree_blowsFrom (q := q) 6 _ _ _ _ _ _ _ _ _ h_10) cv_Tree_blowsFrom k896 (xr_25 C w) (by decide) hl.1 rfl (Nat.le_of_ble_eq_true rfl) d_Tree_weighBells_76 (fun H locs w => ?_)
    show WK p l e s m av below meth c 18 g (wX g q) A none σ2 H locs (F0 m 79 ls [.long r_11, .long x4])
    refine lv_ladd hx hb d_Tree_weighBells_79 ?_
    refine lv_topl (fun x_13 ex_13 => ?_)
    have hf := lt_e ex_13 hf
    refine lv_lstore (lv' := [(4, .long x_13), (0, .ref (q 25)), (1, .ref (q 34)), (2, .ref (q 15)), (3, .int x3), (6, .int x6)]) hx hb d_Tree_weighBells_80 hl (by decide) rfl (fun ls hl => ?_)
    obtain ⟨x_14, ex_14⟩ : ∃ y : Int32, y = (x6 + 1) := ⟨_, rfl⟩
    have hf := lt_e ex_14 hf
    refine lv_iinc (v := x_14) (lv' := [(6, .int x_14), (4, .long x_13), (0, .ref (q 25)), (1, .ref (q 34)), (2, .ref (q 15)), (3, .int x3)]) hx hb d_Tree_weighBells_82 hl (k := 5) rfl (by rw [ex_14]; rfl) (by decide) rfl (fun ls hl => ?_)
    refine lv_goto (tgt := 26) hx hb d_Tree_weighBells_85 (by decide) ?_
    exact hk26 x3 x_13 x_14 σ_12 _ _ _ hf w (lv_sub hl [2, 3, 4, 5, 1, 0] rfl)
set_option maxHeartbeats 4000000 in
set_option maxRecDepth 20000 in
theorem t_Tree_weighBells_26 {σ2 : St} (C : Cx g A p s m av meth c prog_9_method_9_code 7 "BellHammer$Tree" none) {k14 : Int32 → St → Option (St)} (hk14 : ∀ (x3 : Int32) (σ : St) (H : Heap) (locs : List Loc) (ls : Array Slot), k14 x3 σ = some σ2 → Wd g (wX g q) A s σ H locs → lv_has ls 7 [(0, .ref (q 25)), (1, .ref (q 34)), (2, .ref (q 15)), (3, .int x3)] → WK p l e s m av below meth c 18 g (wX g q) A none σ2 H locs (F0 m 14 ls []))  : ∀ (n : Nat) (x3 : Int32) (x4 : Int64) (x6 : Int32) (σ : St) (H : Heap) (locs : List Loc) (ls : Array Slot), f_Tree_weighBells_26  k14 n x3 x4 x6 σ = some σ2 → Wd g (wX g q) A s σ H locs → lv_has ls 7 [(0, .ref (q 25)), (1, .ref (q 34)), (2, .ref (q 15)), (3, .int x3), (4, .long x4), (6, .int x6)] → WK p l e s m av below meth c 18 g (wX g q) A none σ2 H locs (F0 m 26 ls []) := by
  intro n
  induction n with
  | zero => intro x3 x4 x6 σ H locs ls hf; exact absurd hf (by intro z; cases z)
  | succ n ih => intro x3 x4 x6 σ H locs ls hf w hl; exact t_Tree_weighBells_26b C hk14 ih hf w hl
set_option maxHeartbeats 4000000 in
set_option maxRecDepth 20000 in
theorem t_Tree_weighBells_14b {σ2 : St} (C : Cx g A p s m av meth c prog_9_method_9_code 7 "BellHammer$Tree" none) {k14 : Int32 → St → Option (St)} (hk14 : ∀ (x3 : Int32) (σ : St) (H : Heap) (locs : List Loc) (ls : Array Slot), k14 x3 σ = some σ2 → Wd g (wX g q) A s σ H locs → lv_has ls 7 [(0, .ref (q 25)), (1, .ref (q 34)), (2, .ref (q 15)), (3, .int x3)] → WK p l e s m av below meth c 18 g (wX g q) A none σ2 H locs (F0 m 14 ls []))  {x3 : Int32} {σ : St} {H : Heap} {locs : List Loc} {ls : Array Slot} (hf : f_Tree_weighBells_14b  k14 x3 σ = some σ2) (w : Wd g (wX g q) A s σ H locs) (hl : lv_has ls 7 [(0, .ref (q 25)), (1, .ref (q 34)), (2, .ref (q 15)), (3, .int x3)]) : WK p l e s m av below meth c 18 g (wX g q) A none σ2 H locs (F0 m 14 ls []) := by
  obtain ⟨hx, hb, hml, hown, hts, hK, hA, hZ, hlocks, hr, hN⟩ := id C
  unfold f_Tree_weighBells_14b at hf
  refine lv_iload_n hx hb d_Tree_weighBells_14 rfl (lv_at hl 3 rfl) ?_
  refine lv_bipush (v := 99) hx hb d_Tree_weighBells_15 (by decide) ?_
  refine lv_icmp_gt (tgt := 115) hx hb d_Tree_weighBells_17 (by decide) (fun cd => ?_) (fun cd => ?_)
  · have hf := it_e cd hf
    cases some_e hf
    exact k_vret C w d_Tree_weighBells_115
  · have hf := if_e cd hf
    refine lv_lconst (v := 0) hx hb d_Tree_weighBells_20 (by decide) ?_
    refine lv_lstore (lv' := [(4, .long 0), (0, .ref (q 25)), (1, .ref (q 34)), (2, .ref (q 15)), (3, .int x3)]) hx hb d_Tree_weighBells_21 hl (by decide) rfl (fun ls hl => ?_)
    refine lv_iconst (v := 0) hx hb d_Tree_weighBells_23 (by decide) ?_
    refine lv_istore (lv' := [(6, .int 0), (4, .long 0), (0, .ref (q 25)), (1, .ref (q 34)), (2, .ref (q 15)), (3, .int x3)]) hx hb d_Tree_weighBells_24 hl (by decide) rfl (fun ls hl => ?_)
    exact t_Tree_weighBells_26 C hk14 FU x3 0 0 σ _ _ _ hf w (lv_sub hl [2, 3, 4, 5, 1, 0] rfl)
set_option maxHeartbeats 4000000 in
set_option maxRecDepth 20000 in
theorem t_Tree_weighBells_14 {σ2 : St} (C : Cx g A p s m av meth c prog_9_method_9_code 7 "BellHammer$Tree" none)  : ∀ (n : Nat) (x3 : Int32) (σ : St) (H : Heap) (locs : List Loc) (ls : Array Slot), f_Tree_weighBells_14   n x3 σ = some σ2 → Wd g (wX g q) A s σ H locs → lv_has ls 7 [(0, .ref (q 25)), (1, .ref (q 34)), (2, .ref (q 15)), (3, .int x3)] → WK p l e s m av below meth c 18 g (wX g q) A none σ2 H locs (F0 m 14 ls []) := by
  intro n
  induction n with
  | zero => intro x3 σ H locs ls hf; exact absurd hf (by intro z; cases z)
  | succ n ih => intro x3 σ H locs ls hf w hl; exact t_Tree_weighBells_14b C  ih hf w hl
set_option maxHeartbeats 4000000 in
set_option maxRecDepth 20000 in
theorem c_Tree_weighBells {l : Launch} {g : GX} {q : Nat → Nat}  {σ : St} {σ2 : St} (hf : f_Tree_weighBells   σ = some σ2) : KK l y_Tree_weighBells prog_9_method_9_code 7 none 18 g (wX g q) σ [.ref (q 25), .ref (q 34), .ref (q 15)] none (wX g q) σ2 := by
  refine KK_of (plainFor_of_name (by decide)) (Nat.le_of_ble_eq_true rfl) (fun p e s m below meth c A ls C w hl => ?_)
  have hl : lv_has ls 7 [(0, .ref (q 25)), (1, .ref (q 34)), (2, .ref (q 15))] := hl
  obtain ⟨hx, hb, hml, hown, hts, hK, hA, hZ, hlocks, hr, hN⟩ := id C
  unfold f_Tree_weighBells at hf
  refine lv_aload_n hx hb d_Tree_weighBells_0 rfl (lv_at hl 0 rfl) ?_
  refine lv_iconst (v := (-1)) hx hb d_Tree_weighBells_1 (by decide) ?_
  refine xp_25_winner C w k469 d_Tree_weighBells_2 (fun σ_1 H locs eσ_1 w => ?_)
  have hf := lt_e eσ_1 hf
  refine lv_aload_n hx hb d_Tree_weighBells_5 rfl (lv_at hl 0 rfl) ?_
  refine lv_ldc2 (v := (-1)) hx hb hown (hts _ k895) d_Tree_weighBells_6 ?_
  refine xp_25_winnerBlows C w k471 d_Tree_weighBells_9 (fun σ_2 H locs eσ_2 w => ?_)
  have hf := lt_e eσ_2 hf
  refine lv_iconst (v := 1) hx hb d_Tree_weighBells_12 (by decide) ?_
  refine lv_istore_n (lv' := [(3, .int 1), (0, .ref (q 25)), (1, .ref (q 34)), (2, .ref (q 15))]) hx hb d_Tree_weighBells_13 rfl hl (by decide) rfl (fun ls hl => ?_)
  exact t_Tree_weighBells_14 C  FU 1 σ_2 _ _ _ hf w (lv_sub hl [1, 2, 3, 0] rfl)
def f_BH_honest_11 (x1 : Int32) (σ : St) : Option (Int32 × St) :=
  bp (f_Tree_weighBells σ) fun σ_2 =>
  if x1 = 0 then
    some ((sI σ_2 39), σ_2)
  else
    bp (f_Tree_winnerLeaves (sA σ_2 9 (2 : Int32).toNatClampNeg) σ_2) fun r_4 =>
    some (r_4, σ_2)
def f_BH_honest (x1 : Int32) (σ : St) : Option (Int32 × St) :=
  if x1 = 0 then
    f_BH_honest_11 x1 σ
  else
    if x1 = 1 then
      f_BH_honest_11 x1 σ
    else
      some ((-1), σ)
set_option maxHeartbeats 4000000 in
set_option maxRecDepth 20000 in
theorem t_BH_honest_11 {r : Int32} {σ2 : St} (C : Cx g A p s m av meth c prog_1_method_17_code 2 "BellHammer" (some .int))  {x1 : Int32} {σ : St} {H : Heap} {locs : List Loc} {ls : Array Slot} (hf : f_BH_honest_11   x1 σ = some (r, σ2)) (w : Wd g (wX g q) A s σ H locs) (hl : lv_has ls 2 [(0, .ref (q 0)), (1, .int x1)]) : WK p l e s m av below meth c 19 g (wX g q) A (some (.int r)) σ2 H locs (F0 m 11 ls []) := by
  obtain ⟨hx, hb, hml, hown, hts, hK, hA, hZ, hlocks, hr, hN⟩ := id C
  unfold f_BH_honest_11 at hf
  refine lv_aload_n hx hb d_BH_honest_11 rfl (lv_at hl 0 rfl) ?_
  refine xg_0_tree C w k510 d_BH_honest_12 ?_
  refine lv_aload_n hx hb d_BH_honest_15 rfl (lv_at hl 0 rfl) ?_
  refine xg_0_fair C w k511 d_BH_honest_16 ?_
  refine lv_aload_n hx hb d_BH_honest_19 rfl (lv_at hl 0 rfl) ?_
  refine xg_0_book C w k507 d_BH_honest_20 ?_
  refine xg_14_now C w k342 d_BH_honest_23 ?_
  obtain ⟨σ_2, h_1, hf⟩ := bp_e hf
  refine k_callV (As := [.ref (q 34), .ref (q 15)]) (rest := []) C w (c_Tree_weighBells (q := q) h_1) cv_Tree_weighBells k918 (xr_25 C w) (by decide) hl.1 rfl (Nat.le_of_ble_eq_true rfl) d_BH_honest_26 (fun H locs w => ?_)
  show WK p l e s m av below meth c 19 g (wX g q) A (some (.int r)) σ2 H locs (F0 m 29 ls [])
  refine lv_iload_n hx hb d_BH_honest_29 rfl (lv_at hl 1 rfl) ?_
  refine lv_if_ne (tgt := 43) hx hb d_BH_honest_30 (by decide) (fun cd => ?_) (fun cd => ?_)
  · have hf := if_e cd hf
    refine lv_aload_n hx hb d_BH_honest_43 rfl (lv_at hl 0 rfl) ?_
    refine xg_0_tree C w k510 d_BH_honest_44 ?_
    refine lv_aload_n hx hb d_BH_honest_47 rfl (lv_at hl 0 rfl) ?_
    refine xg_0_book C w k507 d_BH_honest_48 ?_
    refine xg_14_now C w k342 d_BH_honest_51 ?_
    refine lv_iconst (v := 2) hx hb d_BH_honest_54 (by decide) ?_
    refine xl_15 C w (by decide) d_BH_honest_55 ?_
    obtain ⟨r_4, h_3, hf⟩ := bp_e hf
    refine k_callV (As := [.int (sA σ_2 9 (2 : Int32).toNatClampNeg)]) (rest := []) C w (c_Tree_winnerLeaves (q := q) h_3) cv_Tree_winnerLeaves k910 (xr_25 C w) (by decide) hl.1 rfl (Nat.le_of_ble_eq_true rfl) d_BH_honest_56 (fun H locs w => ?_)
    show WK p l e s m av below meth c 19 g (wX g q) A (some (.int r)) σ2 H locs (F0 m 59 ls [.int r_4])
    obtain ⟨rfl, rfl⟩ := some2_e hf
    exact k_iret C w d_BH_honest_59
  · have hf := it_e cd hf
    refine lv_aload_n hx hb d_BH_honest_33 rfl (lv_at hl 0 rfl) ?_
    refine xg_0_tree C w k510 d_BH_honest_34 ?_
    refine xg_25_winner C w k470 d_BH_honest_37 ?_
    refine lv_goto (tgt := 59) hx hb d_BH_honest_40 (by decide) ?_
    obtain ⟨rfl, rfl⟩ := some2_e hf
    exact k_iret C w d_BH_honest_59
set_option maxHeartbeats 4000000 in
set_option maxRecDepth 20000 in
theorem c_BH_honest {l : Launch} {g : GX} {q : Nat → Nat} {x1 : Int32}  {σ : St} {r : Int32} {σ2 : St} (hf : f_BH_honest  x1 σ = some (r, σ2)) : KK l y_BH_honest prog_1_method_17_code 2 (some .int) 19 g (wX g q) σ [.ref (q 0), .int x1] (some (.int r)) (wX g q) σ2 := by
  refine KK_of (plainFor_of_name (by decide)) (Nat.le_of_ble_eq_true rfl) (fun p e s m below meth c A ls C w hl => ?_)
  have hl : lv_has ls 2 [(0, .ref (q 0)), (1, .int x1)] := hl
  obtain ⟨hx, hb, hml, hown, hts, hK, hA, hZ, hlocks, hr, hN⟩ := id C
  unfold f_BH_honest at hf
  refine lv_iload_n hx hb d_BH_honest_0 rfl (lv_at hl 1 rfl) ?_
  refine lv_if_eq (tgt := 11) hx hb d_BH_honest_1 (by decide) (fun cd => ?_) (fun cd => ?_)
  · have hf := it_e cd hf
    exact t_BH_honest_11 C  hf w (lv_sub hl [0, 1] rfl)
  · have hf := if_e cd hf
    refine lv_iload_n hx hb d_BH_honest_4 rfl (lv_at hl 1 rfl) ?_
    refine lv_iconst (v := 1) hx hb d_BH_honest_5 (by decide) ?_
    refine lv_icmp_eq (tgt := 11) hx hb d_BH_honest_6 (by decide) (fun cd => ?_) (fun cd => ?_)
    · have hf := it_e cd hf
      exact t_BH_honest_11 C  hf w (lv_sub hl [0, 1] rfl)
    · have hf := if_e cd hf
      refine lv_iconst (v := (-1)) hx hb d_BH_honest_9 (by decide) ?_
      obtain ⟨rfl, rfl⟩ := some2_e hf
      exact k_iret C w d_BH_honest_10
def f_BH_wonPairs_40b (k6 : Int32 → Int32 → Int32 → Int32 → Int32 → St → Option (Int32)) (k40 : Int32 → Int32 → Int32 → Int32 → Int32 → Int32 → Int32 → St → Option (Int32)) (x1 : Int32) (x2 : Int32) (x3 : Int32) (x4 : Int32) (x5 : Int32) (x6 : Int32) (x7 : Int32) (σ : St) : Option (Int32) :=
  bp (f_Fair_trait x2 1 σ) fun r_2 =>
  if r_2 < x7 then
    lt ((x5 + 1)) fun x_3 =>
    k6 x1 x2 x3 x4 x_3 σ
  else
    bp (f_Fair_trait x2 0 σ) fun r_5 =>
    bp (f_BH_rise r_5 x7 0 σ) fun r_7 =>
    if x3 = 0 then
      if x6 ≤ r_7 then
        lt ((x7 + 1)) fun x_11 =>
        k40 x1 x2 x3 x4 x5 x6 x_11 σ
      else
        lt ((x4 + 1)) fun x_12 =>
        lt ((x7 + 1)) fun x_13 =>
        k40 x1 x2 x3 x_12 x5 x6 x_13 σ
    else
      if x6 = r_7 then
        lt ((x4 + 1)) fun x_9 =>
        lt ((x7 + 1)) fun x_10 =>
        k40 x1 x2 x3 x_9 x5 x6 x_10 σ
      else
        lt ((x7 + 1)) fun x_8 =>
        k40 x1 x2 x3 x4 x5 x6 x_8 σ
def f_BH_wonPairs_40 (k6 : Int32 → Int32 → Int32 → Int32 → Int32 → St → Option (Int32)) : Nat → Int32 → Int32 → Int32 → Int32 → Int32 → Int32 → Int32 → St → Option (Int32)
  | 0 => fun _ _ _ _ _ _ _ _ => none
  | n + 1 => f_BH_wonPairs_40b  k6 (f_BH_wonPairs_40  k6 n)
def f_BH_wonPairs_6b (k6 : Int32 → Int32 → Int32 → Int32 → Int32 → St → Option (Int32)) (x1 : Int32) (x2 : Int32) (x3 : Int32) (x4 : Int32) (x5 : Int32) (σ : St) : Option (Int32) :=
  bp (f_Fair_trait x1 1 σ) fun r_2 =>
  if r_2 < x5 then
    some x4
  else
    bp (f_Fair_trait x1 0 σ) fun r_4 =>
    bp (f_BH_rise r_4 x5 0 σ) fun r_6 =>
    f_BH_wonPairs_40 k6 FU x1 x2 x3 x4 x5 r_6 0 σ
def f_BH_wonPairs_6 : Nat → Int32 → Int32 → Int32 → Int32 → Int32 → St → Option (Int32)
  | 0 => fun _ _ _ _ _ _ => none
  | n + 1 => f_BH_wonPairs_6b   (f_BH_wonPairs_6   n)
def f_BH_wonPairs (x1 : Int32) (x2 : Int32) (x3 : Int32) (σ : St) : Option (Int32) :=
  f_BH_wonPairs_6 FU x1 x2 x3 0 0 σ
set_option maxHeartbeats 4000000 in
set_option maxRecDepth 20000 in
theorem t_BH_wonPairs_40b {r : Int32} {σ : St} (C : Cx g A p s m av meth c prog_1_method_41_code 9 "BellHammer" (some .int)) {k6 : Int32 → Int32 → Int32 → Int32 → Int32 → St → Option (Int32)} (hk6 : ∀ (x1 : Int32) (x2 : Int32) (x3 : Int32) (x4 : Int32) (x5 : Int32) (H : Heap) (locs : List Loc) (ls : Array Slot), k6 x1 x2 x3 x4 x5 σ = some r → Wd g (wX g q) A s σ H locs → lv_has ls 9 [(0, .ref (q 0)), (1, .int x1), (2, .int x2), (3, .int x3), (4, .int x4), (5, .int x5)] → WK p l e s m av below meth c 1 g (wX g q) A (some (.int r)) σ H locs (F0 m 6 ls [])) {k40 : Int32 → Int32 → Int32 → Int32 → Int32 → Int32 → Int32 → St → Option (Int32)} (hk40 : ∀ (x1 : Int32) (x2 : Int32) (x3 : Int32) (x4 : Int32) (x5 : Int32) (x6 : Int32) (x7 : Int32) (H : Heap) (locs : List Loc) (ls : Array Slot), k40 x1 x2 x3 x4 x5 x6 x7 σ = some r → Wd g (wX g q) A s σ H locs → lv_has ls 9 [(0, .ref (q 0)), (1, .int x1), (2, .int x2), (3, .int x3), (4, .int x4), (5, .int x5), (6, .int x6), (7, .int x7)] → WK p l e s m av below meth c 1 g (wX g q) A (some (.int r)) σ H locs (F0 m 40 ls []))  {x1 : Int32} {x2 : Int32} {x3 : Int32} {x4 : Int32} {x5 : Int32} {x6 : Int32} {x7 : Int32} {H : Heap} {locs : List Loc} {ls : Array Slot} (hf : f_BH_wonPairs_40b  k6 k40 x1 x2 x3 x4 x5 x6 x7 σ = some r) (w : Wd g (wX g q) A s σ H locs) (hl : lv_has ls 9 [(0, .ref (q 0)), (1, .int x1), (2, .int x2), (3, .int x3), (4, .int x4), (5, .int x5), (6, .int x6), (7, .int x7)]) : WK p l e s m av below meth c 1 g (wX g q) A (some (.int r)) σ H locs (F0 m 40 ls []) := by
  obtain ⟨hx, hb, hml, hown, hts, hK, hA, hZ, hlocks, hr, hN⟩ := id C
  unfold f_BH_wonPairs_40b at hf
  refine lv_iload hx hb d_BH_wonPairs_40 (lv_at hl 7 rfl) ?_
  refine lv_aload_n hx hb d_BH_wonPairs_42 rfl (lv_at hl 0 rfl) ?_
  refine xg_0_fair C w k511 d_BH_wonPairs_43 ?_
  refine lv_iload_n hx hb d_BH_wonPairs_46 rfl (lv_at hl 2 rfl) ?_
  refine lv_iconst (v := 1) hx hb d_BH_wonPairs_47 (by decide) ?_
  obtain ⟨r_2, h_1, hf⟩ := bp_e hf
  refine k_callV (As := [.int x2, .int 1]) (rest := [.int x7]) C w (c_Fair_trait (q := q) h_1) cv_Fair_trait k734 (xr_34 C w) (by decide) hl.1 rfl (Nat.le_of_ble_eq_true rfl) d_BH_wonPairs_48 (fun H locs w => ?_)
  show WK p l e s m av below meth c 1 g (wX g q) A (some (.int r)) σ H locs (F0 m 51 ls [.int r_2, .int x7])
  refine lv_icmp_gt (tgt := 101) hx hb d_BH_wonPairs_51 (by decide) (fun cd => ?_) (fun cd => ?_)
  · have hf := it_e cd hf
    obtain ⟨x_3, ex_3⟩ : ∃ y : Int32, y = (x5 + 1) := ⟨_, rfl⟩
    have hf := lt_e ex_3 hf
    refine lv_iinc (v := x_3) (lv' := [(5, .int x_3), (0, .ref (q 0)), (1, .int x1), (2, .int x2), (3, .int x3), (4, .int x4), (6, .int x6), (7, .int x7)]) hx hb d_BH_wonPairs_101 hl (k := 5) rfl (by rw [ex_3]; rfl) (by decide) rfl (fun ls hl => ?_)
    refine lv_goto (tgt := 6) hx hb d_BH_wonPairs_104 (by decide) ?_
    exact hk6 x1 x2 x3 x4 x_3  _ _ _ hf w (lv_sub hl [1, 2, 3, 4, 5, 0] rfl)
  · have hf := if_e cd hf
    refine lv_aload_n hx hb d_BH_wonPairs_54 rfl (lv_at hl 0 rfl) ?_
    refine xg_0_fair C w k511 d_BH_wonPairs_55 ?_
    refine lv_iload_n hx hb d_BH_wonPairs_58 rfl (lv_at hl 2 rfl) ?_
    refine lv_iconst (v := 0) hx hb d_BH_wonPairs_59 (by decide) ?_
    obtain ⟨r_5, h_4, hf⟩ := bp_e hf
    refine k_callV (As := [.int x2, .int 0]) (rest := []) C w (c_Fair_trait (q := q) h_4) cv_Fair_trait k734 (xr_34 C w) (by decide) hl.1 rfl (Nat.le_of_ble_eq_true rfl) d_BH_wonPairs_60 (fun H locs w => ?_)
    show WK p l e s m av below meth c 1 g (wX g q) A (some (.int r)) σ H locs (F0 m 63 ls [.int r_5])
    refine lv_iload hx hb d_BH_wonPairs_63 (lv_at hl 7 rfl) ?_
    refine lv_iconst (v := 0) hx hb d_BH_wonPairs_65 (by decide) ?_
    obtain ⟨r_7, h_6, hf⟩ := bp_e hf
    refine k_callS (As := [.int r_5, .int x7, .int 0]) (rest := []) C w (c_BH_rise (q := q) h_6) cv_BH_rise k785 (by decide) hl.1 rfl (Nat.le_of_ble_eq_true rfl) d_BH_wonPairs_66 (fun H locs w => ?_)
    show WK p l e s m av below meth c 1 g (wX g q) A (some (.int r)) σ H locs (F0 m 69 ls [.int r_7])
    refine lv_istore (lv' := [(8, .int r_7), (0, .ref (q 0)), (1, .int x1), (2, .int x2), (3, .int x3), (4, .int x4), (5, .int x5), (6, .int x6), (7, .int x7)]) hx hb d_BH_wonPairs_69 hl (by decide) rfl (fun ls hl => ?_)
    refine lv_iload_n hx hb d_BH_wonPairs_71 rfl (lv_at hl 4 rfl) ?_
    refine lv_if_ne (tgt := 85) hx hb d_BH_wonPairs_72 (by decide) (fun cd => ?_) (fun cd => ?_)
    · have hf := if_e cd hf
      refine lv_iload hx hb d_BH_wonPairs_85 (lv_at hl 7 rfl) ?_
      refine lv_iload hx hb d_BH_wonPairs_87 (lv_at hl 0 rfl) ?_
      refine lv_icmp_ne (tgt := 95) hx hb d_BH_wonPairs_89 (by decide) (fun cd => ?_) (fun cd => ?_)
      · have hf := if_e cd hf
        obtain ⟨x_8, ex_8⟩ : ∃ y : Int32, y = (x7 + 1) := ⟨_, rfl⟩
        have hf := lt_e ex_8 hf
        refine lv_iinc (v := x_8) (lv' := [(7, .int x_8), (8, .int r_7), (0, .ref (q 0)), (1, .int x1), (2, .int x2), (3, .int x3), (4, .int x4), (5, .int x5), (6, .int x6)]) hx hb d_BH_wonPairs_95 hl (k := 8) rfl (by rw [ex_8]; rfl) (by decide) rfl (fun ls hl => ?_)
        refine lv_goto (tgt := 40) hx hb d_BH_wonPairs_98 (by decide) ?_
        exact hk40 x1 x2 x3 x4 x5 x6 x_8  _ _ _ hf w (lv_sub hl [2, 3, 4, 5, 6, 7, 8, 0] rfl)
      · have hf := it_e cd hf
        obtain ⟨x_9, ex_9⟩ : ∃ y : Int32, y = (x4 + 1) := ⟨_, rfl⟩
        have hf := lt_e ex_9 hf
        refine lv_iinc (v := x_9) (lv' := [(4, .int x_9), (8, .int r_7), (0, .ref (q 0)), (1, .int x1), (2, .int x2), (3, .int x3), (5, .int x5), (6, .int x6), (7, .int x7)]) hx hb d_BH_wonPairs_92 hl (k := 5) rfl (by rw [ex_9]; rfl) (by decide) rfl (fun ls hl => ?_)
        obtain ⟨x_10, ex_10⟩ : ∃ y : Int32, y = (x7 + 1) := ⟨_, rfl⟩
        have hf := lt_e ex_10 hf
        refine lv_iinc (v := x_10) (lv' := [(7, .int x_10), (4, .int x_9), (8, .int r_7), (0, .ref (q 0)), (1, .int x1), (2, .int x2), (3, .int x3), (5, .int x5), (6, .int x6)]) hx hb d_BH_wonPairs_95 hl (k := 8) rfl (by rw [ex_10]; rfl) (by decide) rfl (fun ls hl => ?_)
        refine lv_goto (tgt := 40) hx hb d_BH_wonPairs_98 (by decide) ?_
        exact hk40 x1 x2 x3 x_9 x5 x6 x_10  _ _ _ hf w (lv_sub hl [3, 4, 5, 6, 1, 7, 8, 0] rfl)
    · have hf := it_e cd hf
      refine lv_iload hx hb d_BH_wonPairs_75 (lv_at hl 7 rfl) ?_
      refine lv_iload hx hb d_BH_wonPairs_77 (lv_at hl 0 rfl) ?_
      refine lv_icmp_le (tgt := 95) hx hb d_BH_wonPairs_79 (by decide) (fun cd => ?_) (fun cd => ?_)
      · have hf := it_e cd hf
        obtain ⟨x_11, ex_11⟩ : ∃ y : Int32, y = (x7 + 1) := ⟨_, rfl⟩
        have hf := lt_e ex_11 hf
        refine lv_iinc (v := x_11) (lv' := [(7, .int x_11), (8, .int r_7), (0, .ref (q 0)), (1, .int x1), (2, .int x2), (3, .int x3), (4, .int x4), (5, .int x5), (6, .int x6)]) hx hb d_BH_wonPairs_95 hl (k := 8) rfl (by rw [ex_11]; rfl) (by decide) rfl (fun ls hl => ?_)
        refine lv_goto (tgt := 40) hx hb d_BH_wonPairs_98 (by decide) ?_
        exact hk40 x1 x2 x3 x4 x5 x6 x_11  _ _ _ hf w (lv_sub hl [2, 3, 4, 5, 6, 7, 8, 0] rfl)
      · have hf := if_e cd hf
        refine lv_goto (tgt := 92) hx hb d_BH_wonPairs_82 (by decide) ?_
        obtain ⟨x_12, ex_12⟩ : ∃ y : Int32, y = (x4 + 1) := ⟨_, rfl⟩
        have hf := lt_e ex_12 hf
        refine lv_iinc (v := x_12) (lv' := [(4, .int x_12), (8, .int r_7), (0, .ref (q 0)), (1, .int x1), (2, .int x2), (3, .int x3), (5, .int x5), (6, .int x6), (7, .int x7)]) hx hb d_BH_wonPairs_92 hl (k := 5) rfl (by rw [ex_12]; rfl) (by decide) rfl (fun ls hl => ?_)
        obtain ⟨x_13, ex_13⟩ : ∃ y : Int32, y = (x7 + 1) := ⟨_, rfl⟩
        have hf := lt_e ex_13 hf
        refine lv_iinc (v := x_13) (lv' := [(7, .int x_13), (4, .int x_12), (8, .int r_7), (0, .ref (q 0)), (1, .int x1), (2, .int x2), (3, .int x3), (5, .int x5), (6, .int x6)]) hx hb d_BH_wonPairs_95 hl (k := 8) rfl (by rw [ex_13]; rfl) (by decide) rfl (fun ls hl => ?_)
        refine lv_goto (tgt := 40) hx hb d_BH_wonPairs_98 (by decide) ?_
        exact hk40 x1 x2 x3 x_12 x5 x6 x_13  _ _ _ hf w (lv_sub hl [3, 4, 5, 6, 1, 7, 8, 0] rfl)
set_option maxHeartbeats 4000000 in
set_option maxRecDepth 20000 in
theorem t_BH_wonPairs_40 {r : Int32} {σ : St} (C : Cx g A p s m av meth c prog_1_method_41_code 9 "BellHammer" (some .int)) {k6 : Int32 → Int32 → Int32 → Int32 → Int32 → St → Option (Int32)} (hk6 : ∀ (x1 : Int32) (x2 : Int32) (x3 : Int32) (x4 : Int32) (x5 : Int32) (H : Heap) (locs : List Loc) (ls : Array Slot), k6 x1 x2 x3 x4 x5 σ = some r → Wd g (wX g q) A s σ H locs → lv_has ls 9 [(0, .ref (q 0)), (1, .int x1), (2, .int x2), (3, .int x3), (4, .int x4), (5, .int x5)] → WK p l e s m av below meth c 1 g (wX g q) A (some (.int r)) σ H locs (F0 m 6 ls []))  : ∀ (n : Nat) (x1 : Int32) (x2 : Int32) (x3 : Int32) (x4 : Int32) (x5 : Int32) (x6 : Int32) (x7 : Int32) (H : Heap) (locs : List Loc) (ls : Array Slot), f_BH_wonPairs_40  k6 n x1 x2 x3 x4 x5 x6 x7 σ = some r → Wd g (wX g q) A s σ H locs → lv_has ls 9 [(0, .ref (q 0)), (1, .int x1), (2, .int x2), (3, .int x3), (4, .int x4), (5, .int x5), (6, .int x6), (7, .int x7)] → WK p l e s m av below meth c 1 g (wX g q) A (some (.int r)) σ H locs (F0 m 40 ls []) := by
  intro n
  induction n with
  | zero => intro x1 x2 x3 x4 x5 x6 x7 H locs ls hf; exact absurd hf (by intro z; cases z)
  | succ n ih => intro x1 x2 x3 x4 x5 x6 x7 H locs ls hf w hl; exact t_BH_wonPairs_40b C hk6 ih hf w hl
set_option maxHeartbeats 4000000 in
set_option maxRecDepth 20000 in
theorem t_BH_wonPairs_6b {r : Int32} {σ : St} (C : Cx g A p s m av meth c prog_1_method_41_code 9 "BellHammer" (some .int)) {k6 : Int32 → Int32 → Int32 → Int32 → Int32 → St → Option (Int32)} (hk6 : ∀ (x1 : Int32) (x2 : Int32) (x3 : Int32) (x4 : Int32) (x5 : Int32) (H : Heap) (locs : List Loc) (ls : Array Slot), k6 x1 x2 x3 x4 x5 σ = some r → Wd g (wX g q) A s σ H locs → lv_has ls 9 [(0, .ref (q 0)), (1, .int x1), (2, .int x2), (3, .int x3), (4, .int x4), (5, .int x5)] → WK p l e s m av below meth c 1 g (wX g q) A (some (.int r)) σ H locs (F0 m 6 ls []))  {x1 : Int32} {x2 : Int32} {x3 : Int32} {x4 : Int32} {x5 : Int32} {H : Heap} {locs : List Loc} {ls : Array Slot} (hf : f_BH_wonPairs_6b  k6 x1 x2 x3 x4 x5 σ = some r) (w : Wd g (wX g q) A s σ H locs) (hl : lv_has ls 9 [(0, .ref (q 0)), (1, .int x1), (2, .int x2), (3, .int x3), (4, .int x4), (5, .int x5)]) : WK p l e s m av below meth c 1 g (wX g q) A (some (.int r)) σ H locs (F0 m 6 ls []) := by
  obtain ⟨hx, hb, hml, hown, hts, hK, hA, hZ, hlocks, hr, hN⟩ := id C
  unfold f_BH_wonPairs_6b at hf
  refine lv_iload hx hb d_BH_wonPairs_6 (lv_at hl 5 rfl) ?_
  refine lv_aload_n hx hb d_BH_wonPairs_8 rfl (lv_at hl 0 rfl) ?_
  refine xg_0_fair C w k511 d_BH_wonPairs_9 ?_
  refine lv_iload_n hx hb d_BH_wonPairs_12 rfl (lv_at hl 1 rfl) ?_
  refine lv_iconst (v := 1) hx hb d_BH_wonPairs_13 (by decide) ?_
  obtain ⟨r_2, h_1, hf⟩ := bp_e hf
  refine k_callV (As := [.int x1, .int 1]) (rest := [.int x5]) C w (c_Fair_trait (q := q) h_1) cv_Fair_trait k734 (xr_34 C w) (by decide) hl.1 rfl (Nat.le_of_ble_eq_true rfl) d_BH_wonPairs_14 (fun H locs w => ?_)
  show WK p l e s m av below meth c 1 g (wX g q) A (some (.int r)) σ H locs (F0 m 17 ls [.int r_2, .int x5])
  refine lv_icmp_gt (tgt := 107) hx hb d_BH_wonPairs_17 (by decide) (fun cd => ?_) (fun cd => ?_)
  · have hf := it_e cd hf
    refine lv_iload hx hb d_BH_wonPairs_107 (lv_at hl 4 rfl) ?_
    cases some_e hf
    exact k_iret C w d_BH_wonPairs_109
  · have hf := if_e cd hf
    refine lv_aload_n hx hb d_BH_wonPairs_20 rfl (lv_at hl 0 rfl) ?_
    refine xg_0_fair C w k511 d_BH_wonPairs_21 ?_
    refine lv_iload_n hx hb d_BH_wonPairs_24 rfl (lv_at hl 1 rfl) ?_
    refine lv_iconst (v := 0) hx hb d_BH_wonPairs_25 (by decide) ?_
    obtain ⟨r_4, h_3, hf⟩ := bp_e hf
    refine k_callV (As := [.int x1, .int 0]) (rest := []) C w (c_Fair_trait (q := q) h_3) cv_Fair_trait k734 (xr_34 C w) (by decide) hl.1 rfl (Nat.le_of_ble_eq_true rfl) d_BH_wonPairs_26 (fun H locs w => ?_)
    show WK p l e s m av below meth c 1 g (wX g q) A (some (.int r)) σ H locs (F0 m 29 ls [.int r_4])
    refine lv_iload hx hb d_BH_wonPairs_29 (lv_at hl 5 rfl) ?_
    refine lv_iconst (v := 0) hx hb d_BH_wonPairs_31 (by decide) ?_
    obtain ⟨r_6, h_5, hf⟩ := bp_e hf
    refine k_callS (As := [.int r_4, .int x5, .int 0]) (rest := []) C w (c_BH_rise (q := q) h_5) cv_BH_rise k785 (by decide) hl.1 rfl (Nat.le_of_ble_eq_true rfl) d_BH_wonPairs_32 (fun H locs w => ?_)
    show WK p l e s m av below meth c 1 g (wX g q) A (some (.int r)) σ H locs (F0 m 35 ls [.int r_6])
    refine lv_istore (lv' := [(6, .int r_6), (0, .ref (q 0)), (1, .int x1), (2, .int x2), (3, .int x3), (4, .int x4), (5, .int x5)]) hx hb d_BH_wonPairs_35 hl (by decide) rfl (fun ls hl => ?_)
    refine lv_iconst (v := 0) hx hb d_BH_wonPairs_37 (by decide) ?_
    refine lv_istore (lv' := [(7, .int 0), (6, .int r_6), (0, .ref (q 0)), (1, .int x1), (2, .int x2), (3, .int x3), (4, .int x4), (5, .int x5)]) hx hb d_BH_wonPairs_38 hl (by decide) rfl (fun ls hl => ?_)
    exact t_BH_wonPairs_40 C hk6 FU x1 x2 x3 x4 x5 r_6 0  _ _ _ hf w (lv_sub hl [2, 3, 4, 5, 6, 7, 1, 0] rfl)
set_option maxHeartbeats 4000000 in
set_option maxRecDepth 20000 in
theorem t_BH_wonPairs_6 {r : Int32} {σ : St} (C : Cx g A p s m av meth c prog_1_method_41_code 9 "BellHammer" (some .int))  : ∀ (n : Nat) (x1 : Int32) (x2 : Int32) (x3 : Int32) (x4 : Int32) (x5 : Int32) (H : Heap) (locs : List Loc) (ls : Array Slot), f_BH_wonPairs_6   n x1 x2 x3 x4 x5 σ = some r → Wd g (wX g q) A s σ H locs → lv_has ls 9 [(0, .ref (q 0)), (1, .int x1), (2, .int x2), (3, .int x3), (4, .int x4), (5, .int x5)] → WK p l e s m av below meth c 1 g (wX g q) A (some (.int r)) σ H locs (F0 m 6 ls []) := by
  intro n
  induction n with
  | zero => intro x1 x2 x3 x4 x5 H locs ls hf; exact absurd hf (by intro z; cases z)
  | succ n ih => intro x1 x2 x3 x4 x5 H locs ls hf w hl; exact t_BH_wonPairs_6b C  ih hf w hl
set_option maxHeartbeats 4000000 in
set_option maxRecDepth 20000 in
theorem c_BH_wonPairs {l : Launch} {g : GX} {q : Nat → Nat} {x1 : Int32} {x2 : Int32} {x3 : Int32}  {σ : St} {r : Int32} (hf : f_BH_wonPairs  x1 x2 x3 σ = some r) : KK l y_BH_wonPairs prog_1_method_41_code 9 (some .int) 1 g (wX g q) σ [.ref (q 0), .int x1, .int x2, .int x3] (some (.int r)) (wX g q) σ := by
  refine KK_of (plainFor_of_name (by decide)) (Nat.le_of_ble_eq_true rfl) (fun p e s m below meth c A ls C w hl => ?_)
  have hl : lv_has ls 9 [(0, .ref (q 0)), (1, .int x1), (2, .int x2), (3, .int x3)] := hl
  obtain ⟨hx, hb, hml, hown, hts, hK, hA, hZ, hlocks, hr, hN⟩ := id C
  unfold f_BH_wonPairs at hf
  refine lv_iconst (v := 0) hx hb d_BH_wonPairs_0 (by decide) ?_
  refine lv_istore (lv' := [(4, .int 0), (0, .ref (q 0)), (1, .int x1), (2, .int x2), (3, .int x3)]) hx hb d_BH_wonPairs_1 hl (by decide) rfl (fun ls hl => ?_)
  refine lv_iconst (v := 0) hx hb d_BH_wonPairs_3 (by decide) ?_
  refine lv_istore (lv' := [(5, .int 0), (4, .int 0), (0, .ref (q 0)), (1, .int x1), (2, .int x2), (3, .int x3)]) hx hb d_BH_wonPairs_4 hl (by decide) rfl (fun ls hl => ?_)
  exact t_BH_wonPairs_6 C  FU x1 x2 x3 0 0  _ _ _ hf w (lv_sub hl [2, 3, 4, 5, 1, 0] rfl)
def f_BH_bet_32 (x1 : Int32) (x2 : Int32) (x3 : Int32) (σ : St) : Option (Int32) :=
  bp (f_Fair_trait x1 1 σ) fun r_2 =>
  bp (f_Fair_trait x2 1 σ) fun r_4 =>
  lt (((r_2 + 1) * (r_4 + 1))) fun x_5 =>
  if 0 < x_5 then
    bp (f_BH_wonPairs x1 x2 x3 σ) fun r_7 =>
    gd (nz x_5) <|
    some ((1000 * r_7) / x_5)
  else
    some (-1)
def f_BH_bet (x1 : Int32) (x2 : Int32) (x3 : Int32) (σ : St) : Option (Int32) :=
  bp (f_BH_isTrier x1 σ) fun r_2 =>
  if r_2 = 0 then
    some (-1)
  else
    bp (f_BH_isTrier x2 σ) fun r_4 =>
    if r_4 = 0 then
      some (-1)
    else
      if x1 = x2 then
        some (-1)
      else
        if x3 = 0 then
          f_BH_bet_32 x1 x2 x3 σ
        else
          if x3 = 1 then
            f_BH_bet_32 x1 x2 x3 σ
          else
            some (-1)
set_option maxHeartbeats 4000000 in
set_option maxRecDepth 20000 in
theorem t_BH_bet_32 {r : Int32} {σ : St} (C : Cx g A p s m av meth c prog_1_method_18_code 5 "BellHammer" (some .int))  {x1 : Int32} {x2 : Int32} {x3 : Int32} {H : Heap} {locs : List Loc} {ls : Array Slot} (hf : f_BH_bet_32   x1 x2 x3 σ = some r) (w : Wd g (wX g q) A s σ H locs) (hl : lv_has ls 5 [(0, .ref (q 0)), (1, .int x1), (2, .int x2), (3, .int x3)]) : WK p l e s m av below meth c 2 g (wX g q) A (some (.int r)) σ H locs (F0 m 32 ls []) := by
  obtain ⟨hx, hb, hml, hown, hts, hK, hA, hZ, hlocks, hr, hN⟩ := id C
  unfold f_BH_bet_32 at hf
  refine lv_aload_n hx hb d_BH_bet_32 rfl (lv_at hl 0 rfl) ?_
  refine xg_0_fair C w k511 d_BH_bet_33 ?_
  refine lv_iload_n hx hb d_BH_bet_36 rfl (lv_at hl 1 rfl) ?_
  refine lv_iconst (v := 1) hx hb d_BH_bet_37 (by decide) ?_
  obtain ⟨r_2, h_1, hf⟩ := bp_e hf
  refine k_callV (As := [.int x1, .int 1]) (rest := []) C w (c_Fair_trait (q := q) h_1) cv_Fair_trait k734 (xr_34 C w) (by decide) hl.1 rfl (Nat.le_of_ble_eq_true rfl) d_BH_bet_38 (fun H locs w => ?_)
  show WK p l e s m av below meth c 2 g (wX g q) A (some (.int r)) σ H locs (F0 m 41 ls [.int r_2])
  refine lv_iconst (v := 1) hx hb d_BH_bet_41 (by decide) ?_
  refine lv_iadd hx hb d_BH_bet_42 ?_
  refine lv_aload_n hx hb d_BH_bet_43 rfl (lv_at hl 0 rfl) ?_
  refine xg_0_fair C w k511 d_BH_bet_44 ?_
  refine lv_iload_n hx hb d_BH_bet_47 rfl (lv_at hl 2 rfl) ?_
  refine lv_iconst (v := 1) hx hb d_BH_bet_48 (by decide) ?_
  obtain ⟨r_4, h_3, hf⟩ := bp_e hf
  refine k_callV (As := [.int x2, .int 1]) (rest := [.int (r_2 + 1)]) C w (c_Fair_trait (q := q) h_3) cv_Fair_trait k734 (xr_34 C w) (by decide) hl.1 rfl (Nat.le_of_ble_eq_true rfl) d_BH_bet_49 (fun H locs w => ?_)
  show WK p l e s m av below meth c 2 g (wX g q) A (some (.int r)) σ H locs (F0 m 52 ls [.int r_4, .int (r_2 + 1)])
  refine lv_iconst (v := 1) hx hb d_BH_bet_52 (by decide) ?_
  refine lv_iadd hx hb d_BH_bet_53 ?_
  refine lv_imul hx hb d_BH_bet_54 ?_
  refine lv_topi (fun x_5 ex_5 => ?_)
  have hf := lt_e ex_5 hf
  refine lv_istore (lv' := [(4, .int x_5), (0, .ref (q 0)), (1, .int x1), (2, .int x2), (3, .int x3)]) hx hb d_BH_bet_55 hl (by decide) rfl (fun ls hl => ?_)
  refine lv_iload hx hb d_BH_bet_57 (lv_at hl 0 rfl) ?_
  refine lv_if_gt (tgt := 64) hx hb d_BH_bet_59 (by decide) (fun cd => ?_) (fun cd => ?_)
  · have hf := it_e cd hf
    refine lv_sipush (v := 1000) hx hb d_BH_bet_64 (by decide) ?_
    refine lv_aload_n hx hb d_BH_bet_67 rfl (lv_at hl 1 rfl) ?_
    refine lv_iload_n hx hb d_BH_bet_68 rfl (lv_at hl 2 rfl) ?_
    refine lv_iload_n hx hb d_BH_bet_69 rfl (lv_at hl 3 rfl) ?_
    refine lv_iload_n hx hb d_BH_bet_70 rfl (lv_at hl 4 rfl) ?_
    obtain ⟨r_7, h_6, hf⟩ := bp_e hf
    refine k_callV (As := [.int x1, .int x2, .int x3]) (rest := [.int 1000]) C w (c_BH_wonPairs (q := q) h_6) cv_BH_wonPairs k926 (xr_0 C w) (by decide) hl.1 rfl (Nat.le_of_ble_eq_true rfl) d_BH_bet_71 (fun H locs w => ?_)
    show WK p l e s m av below meth c 2 g (wX g q) A (some (.int r)) σ H locs (F0 m 74 ls [.int r_7, .int 1000])
    refine lv_imul hx hb d_BH_bet_74 ?_
    refine lv_iload hx hb d_BH_bet_75 (lv_at hl 0 rfl) ?_
    obtain ⟨g_8, hf⟩ := gd_e hf
    refine lv_idiv hx hb d_BH_bet_77 (nz_e g_8) ?_
    cases some_e hf
    exact k_iret C w d_BH_bet_78
  · have hf := if_e cd hf
    refine lv_iconst (v := (-1)) hx hb d_BH_bet_62 (by decide) ?_
    cases some_e hf
    exact k_iret C w d_BH_bet_63
set_option maxHeartbeats 4000000 in
set_option maxRecDepth 20000 in
theorem c_BH_bet {l : Launch} {g : GX} {q : Nat → Nat} {x1 : Int32} {x2 : Int32} {x3 : Int32}  {σ : St} {r : Int32} (hf : f_BH_bet  x1 x2 x3 σ = some r) : KK l y_BH_bet prog_1_method_18_code 5 (some .int) 2 g (wX g q) σ [.ref (q 0), .int x1, .int x2, .int x3] (some (.int r)) (wX g q) σ := by
  refine KK_of (plainFor_of_name (by decide)) (Nat.le_of_ble_eq_true rfl) (fun p e s m below meth c A ls C w hl => ?_)
  have hl : lv_has ls 5 [(0, .ref (q 0)), (1, .int x1), (2, .int x2), (3, .int x3)] := hl
  obtain ⟨hx, hb, hml, hown, hts, hK, hA, hZ, hlocks, hr, hN⟩ := id C
  unfold f_BH_bet at hf
  refine lv_aload_n hx hb d_BH_bet_0 rfl (lv_at hl 0 rfl) ?_
  refine lv_iload_n hx hb d_BH_bet_1 rfl (lv_at hl 1 rfl) ?_
  obtain ⟨r_2, h_1, hf⟩ := bp_e hf
  refine k_callV (As := [.int x1]) (rest := []) C w (c_BH_isTrier (q := q) h_1) cv_BH_isTrier k726 (xr_0 C w) (by decide) hl.1 rfl (Nat.le_of_ble_eq_true rfl) d_BH_bet_2 (fun H locs w => ?_)
  show WK p l e s m _ below meth c 2 g (wX g q) A (some (.int r)) σ H locs (F0 m 5 ls [.int r_2])
  refine lv_if_eq (tgt := 30) hx hb d_BH_bet_5 (by decide) (fun cd => ?_) (fun cd => ?_)
  · have hf := it_e cd hf
    refine lv_iconst (v := (-1)) hx hb d_BH_bet_30 (by decide) ?_
    cases some_e hf
    exact k_iret C w d_BH_bet_31
  · have hf := if_e cd hf
    refine lv_aload_n hx hb d_BH_bet_8 rfl (lv_at hl 0 rfl) ?_
    refine lv_iload_n hx hb d_BH_bet_9 rfl (lv_at hl 2 rfl) ?_
    obtain ⟨r_4, h_3, hf⟩ := bp_e hf
    refine k_callV (As := [.int x2]) (rest := []) C w (c_BH_isTrier (q := q) h_3) cv_BH_isTrier k726 (xr_0 C w) (by decide) hl.1 rfl (Nat.le_of_ble_eq_true rfl) d_BH_bet_10 (fun H locs w => ?_)
    show WK p l e s m _ below meth c 2 g (wX g q) A (some (.int r)) σ H locs (F0 m 13 ls [.int r_4])
    refine lv_if_eq (tgt := 30) hx hb d_BH_bet_13 (by decide) (fun cd => ?_) (fun cd => ?_)
    · have hf := it_e cd hf
      refine lv_iconst (v := (-1)) hx hb d_BH_bet_30 (by decide) ?_
      cases some_e hf
      exact k_iret C w d_BH_bet_31
    · have hf := if_e cd hf
      refine lv_iload_n hx hb d_BH_bet_16 rfl (lv_at hl 1 rfl) ?_
      refine lv_iload_n hx hb d_BH_bet_17 rfl (lv_at hl 2 rfl) ?_
      refine lv_icmp_eq (tgt := 30) hx hb d_BH_bet_18 (by decide) (fun cd => ?_) (fun cd => ?_)
      · have hf := it_e cd hf
        refine lv_iconst (v := (-1)) hx hb d_BH_bet_30 (by decide) ?_
        cases some_e hf
        exact k_iret C w d_BH_bet_31
      · have hf := if_e cd hf
        refine lv_iload_n hx hb d_BH_bet_21 rfl (lv_at hl 3 rfl) ?_
        refine lv_if_eq (tgt := 32) hx hb d_BH_bet_22 (by decide) (fun cd => ?_) (fun cd => ?_)
        · have hf := it_e cd hf
          exact t_BH_bet_32 C  hf w (lv_sub hl [0, 1, 2, 3] rfl)
        · have hf := if_e cd hf
          refine lv_iload_n hx hb d_BH_bet_25 rfl (lv_at hl 3 rfl) ?_
          refine lv_iconst (v := 1) hx hb d_BH_bet_26 (by decide) ?_
          refine lv_icmp_eq (tgt := 32) hx hb d_BH_bet_27 (by decide) (fun cd => ?_) (fun cd => ?_)
          · have hf := it_e cd hf
            exact t_BH_bet_32 C  hf w (lv_sub hl [0, 1, 2, 3] rfl)
          · have hf := if_e cd hf
            refine lv_iconst (v := (-1)) hx hb d_BH_bet_30 (by decide) ?_
            cases some_e hf
            exact k_iret C w d_BH_bet_31
def f_Book_addAct_60 (x1 : Int32) (x2 : Int32) (σ : St) : Option (St) :=
  gd (inB (sI σ 23) 20) <|
  lt (uA σ 10 (upd (sA σ 10) (sI σ 23).toNatClampNeg x1)) fun σ_2 =>
  gd (inB (sI σ_2 23) 20) <|
  lt (uA σ_2 11 (upd (sA σ_2 11) (sI σ_2 23).toNatClampNeg x2)) fun σ_4 =>
  gd (inB (sI σ_4 23) 20) <|
  lt (uA σ_4 12 (upd (sA σ_4 12) (sI σ_4 23).toNatClampNeg 0)) fun σ_6 =>
  lt (uI σ_6 23 ((sI σ_6 23) + 1)) fun σ_7 =>
  some σ_7
def f_Book_addAct (x1 : Int32) (x2 : Int32) (σ : St) : Option (St) :=
  if (sI σ 23) < 20 then
    f_Book_addAct_60 x1 x2 σ
  else
    lt (uA σ 10 (va_cpy (sA σ 10) (sA σ 10) (1 : Int32).toNatClampNeg (0 : Int32).toNatClampNeg (19 : Int32).toNatClampNeg)) fun σ_1 =>
    lt (uA σ_1 11 (va_cpy (sA σ_1 11) (sA σ_1 11) (1 : Int32).toNatClampNeg (0 : Int32).toNatClampNeg (19 : Int32).toNatClampNeg)) fun σ_2 =>
    lt (uA σ_2 12 (va_cpy (sA σ_2 12) (sA σ_2 12) (1 : Int32).toNatClampNeg (0 : Int32).toNatClampNeg (19 : Int32).toNatClampNeg)) fun σ_3 =>
    lt (uI σ_3 23 19) fun σ_4 =>
    f_Book_addAct_60 x1 x2 σ_4
set_option maxHeartbeats 4000000 in
set_option maxRecDepth 20000 in
theorem t_Book_addAct_60 {σ2 : St} (C : Cx g A p s m av meth c prog_2_method_3_code 3 "BellHammer$Book" none)  {x1 : Int32} {x2 : Int32} {σ : St} {H : Heap} {locs : List Loc} {ls : Array Slot} (hf : f_Book_addAct_60   x1 x2 σ = some σ2) (w : Wd g (wX g q) A s σ H locs) (hl : lv_has ls 3 [(0, .ref (q 14)), (1, .int x1), (2, .int x2)]) : WK p l e s m av below meth c 1 g (wX g q) A none σ2 H locs (F0 m 60 ls []) := by
  obtain ⟨hx, hb, hml, hown, hts, hK, hA, hZ, hlocks, hr, hN⟩ := id C
  unfold f_Book_addAct_60 at hf
  refine lv_aload_n hx hb d_Book_addAct_60 rfl (lv_at hl 0 rfl) ?_
  refine xg_14_actKind C w k351 d_Book_addAct_61 ?_
  refine lv_aload_n hx hb d_Book_addAct_64 rfl (lv_at hl 0 rfl) ?_
  refine xg_14_acts C w k349 d_Book_addAct_65 ?_
  refine lv_iload_n hx hb d_Book_addAct_68 rfl (lv_at hl 1 rfl) ?_
  obtain ⟨g_1, hf⟩ := gd_e hf
  refine xs_16 C w g_1 d_Book_addAct_69 (fun σ_2 H locs eσ_2 w => ?_)
  have hf := lt_e eσ_2 hf
  refine lv_aload_n hx hb d_Book_addAct_70 rfl (lv_at hl 0 rfl) ?_
  refine xg_14_actOld C w k352 d_Book_addAct_71 ?_
  refine lv_aload_n hx hb d_Book_addAct_74 rfl (lv_at hl 0 rfl) ?_
  refine xg_14_acts C w k349 d_Book_addAct_75 ?_
  refine lv_iload_n hx hb d_Book_addAct_78 rfl (lv_at hl 2 rfl) ?_
  obtain ⟨g_3, hf⟩ := gd_e hf
  refine xs_17 C w g_3 d_Book_addAct_79 (fun σ_4 H locs eσ_4 w => ?_)
  have hf := lt_e eσ_4 hf
  refine lv_aload_n hx hb d_Book_addAct_80 rfl (lv_at hl 0 rfl) ?_
  refine xg_14_actBlows C w k353 d_Book_addAct_81 ?_
  refine lv_aload_n hx hb d_Book_addAct_84 rfl (lv_at hl 0 rfl) ?_
  refine xg_14_acts C w k349 d_Book_addAct_85 ?_
  refine lv_iconst (v := 0) hx hb d_Book_addAct_88 (by decide) ?_
  obtain ⟨g_5, hf⟩ := gd_e hf
  refine xs_18 C w g_5 d_Book_addAct_89 (fun σ_6 H locs eσ_6 w => ?_)
  have hf := lt_e eσ_6 hf
  refine lv_aload_n hx hb d_Book_addAct_90 rfl (lv_at hl 0 rfl) ?_
  refine lv_dup hx hb d_Book_addAct_91 rfl ?_
  refine xg_14_acts C w k349 d_Book_addAct_92 ?_
  refine lv_iconst (v := 1) hx hb d_Book_addAct_95 (by decide) ?_
  refine lv_iadd hx hb d_Book_addAct_96 ?_
  refine xp_14_acts C w k349 d_Book_addAct_97 (fun σ_7 H locs eσ_7 w => ?_)
  have hf := lt_e eσ_7 hf
  cases some_e hf
  exact k_vret C w d_Book_addAct_100
set_option maxHeartbeats 4000000 in
set_option maxRecDepth 20000 in
theorem c_Book_addAct {l : Launch} {g : GX} {q : Nat → Nat} {x1 : Int32} {x2 : Int32}  {σ : St} {σ2 : St} (hf : f_Book_addAct  x1 x2 σ = some σ2) : KK l y_Book_addAct prog_2_method_3_code 3 none 1 g (wX g q) σ [.ref (q 14), .int x1, .int x2] none (wX g q) σ2 := by
  refine KK_of (plainFor_of_name (by decide)) (Nat.le_of_ble_eq_true rfl) (fun p e s m below meth c A ls C w hl => ?_)
  have hl : lv_has ls 3 [(0, .ref (q 14)), (1, .int x1), (2, .int x2)] := hl
  obtain ⟨hx, hb, hml, hown, hts, hK, hA, hZ, hlocks, hr, hN⟩ := id C
  unfold f_Book_addAct at hf
  refine lv_aload_n hx hb d_Book_addAct_0 rfl (lv_at hl 0 rfl) ?_
  refine xg_14_acts C w k349 d_Book_addAct_1 ?_
  refine lv_bipush (v := 20) hx hb d_Book_addAct_4 (by decide) ?_
  refine lv_icmp_lt (tgt := 60) hx hb d_Book_addAct_6 (by decide) (fun cd => ?_) (fun cd => ?_)
  · have hf := it_e cd hf
    exact t_Book_addAct_60 C  hf w (lv_sub hl [0, 1, 2] rfl)
  · have hf := if_e cd hf
    refine lv_aload_n hx hb d_Book_addAct_9 rfl (lv_at hl 0 rfl) ?_
    refine xg_14_actKind C w k351 d_Book_addAct_10 ?_
    refine lv_iconst (v := 1) hx hb d_Book_addAct_13 (by decide) ?_
    refine lv_aload_n hx hb d_Book_addAct_14 rfl (lv_at hl 0 rfl) ?_
    refine xg_14_actKind C w k351 d_Book_addAct_15 ?_
    refine lv_iconst (v := 0) hx hb d_Book_addAct_18 (by decide) ?_
    refine lv_bipush (v := 19) hx hb d_Book_addAct_19 (by decide) ?_
    refine xc_16_16 C w hl.1 (by omega) (Nat.le_of_ble_eq_true rfl) (by decide) (by decide) (by decide) (by decide) (by decide) k334 d_Book_addAct_21 (fun σ_1 H locs eσ_1 w => ?_)
    have hf := lt_e eσ_1 hf
    refine lv_aload_n hx hb d_Book_addAct_24 rfl (lv_at hl 0 rfl) ?_
    refine xg_14_actOld C w k352 d_Book_addAct_25 ?_
    refine lv_iconst (v := 1) hx hb d_Book_addAct_28 (by decide) ?_
    refine lv_aload_n hx hb d_Book_addAct_29 rfl (lv_at hl 0 rfl) ?_
    refine xg_14_actOld C w k352 d_Book_addAct_30 ?_
    refine lv_iconst (v := 0) hx hb d_Book_addAct_33 (by decide) ?_
    refine lv_bipush (v := 19) hx hb d_Book_addAct_34 (by decide) ?_
    refine xc_17_17 C w hl.1 (by omega) (Nat.le_of_ble_eq_true rfl) (by decide) (by decide) (by decide) (by decide) (by decide) k334 d_Book_addAct_36 (fun σ_2 H locs eσ_2 w => ?_)
    have hf := lt_e eσ_2 hf
    refine lv_aload_n hx hb d_Book_addAct_39 rfl (lv_at hl 0 rfl) ?_
    refine xg_14_actBlows C w k353 d_Book_addAct_40 ?_
    refine lv_iconst (v := 1) hx hb d_Book_addAct_43 (by decide) ?_
    refine lv_aload_n hx hb d_Book_addAct_44 rfl (lv_at hl 0 rfl) ?_
    refine xg_14_actBlows C w k353 d_Book_addAct_45 ?_
    refine lv_iconst (v := 0) hx hb d_Book_addAct_48 (by decide) ?_
    refine lv_bipush (v := 19) hx hb d_Book_addAct_49 (by decide) ?_
    refine xc_18_18 C w hl.1 (by omega) (Nat.le_of_ble_eq_true rfl) (by decide) (by decide) (by decide) (by decide) (by decide) k334 d_Book_addAct_51 (fun σ_3 H locs eσ_3 w => ?_)
    have hf := lt_e eσ_3 hf
    refine lv_aload_n hx hb d_Book_addAct_54 rfl (lv_at hl 0 rfl) ?_
    refine lv_bipush (v := 19) hx hb d_Book_addAct_55 (by decide) ?_
    refine xp_14_acts C w k349 d_Book_addAct_57 (fun σ_4 H locs eσ_4 w => ?_)
    have hf := lt_e eσ_4 hf
    exact t_Book_addAct_60 C  hf w (lv_sub hl [0, 1, 2] rfl)
def f_Book_startNight (x1 : Int32) (σ : St) : Option (St) :=
  bp (f_Book_addAct 4 (sI σ 18) σ) fun σ_2 =>
  lt (uI σ_2 17 ((sI σ_2 17) + 1)) fun σ_3 =>
  lt (uI σ_3 20 x1) fun σ_4 =>
  lt (uI σ_4 21 0) fun σ_5 =>
  some σ_5
set_option maxHeartbeats 4000000 in
set_option maxRecDepth 20000 in
theorem c_Book_startNight {l : Launch} {g : GX} {q : Nat → Nat} {x1 : Int32}  {σ : St} {σ2 : St} (hf : f_Book_startNight  x1 σ = some σ2) : KK l y_Book_startNight prog_2_method_7_code 2 none 2 g (wX g q) σ [.ref (q 14), .int x1] none (wX g q) σ2 := by
  refine KK_of (plainFor_of_name (by decide)) (Nat.le_of_ble_eq_true rfl) (fun p e s m below meth c A ls C w hl => ?_)
  have hl : lv_has ls 2 [(0, .ref (q 14)), (1, .int x1)] := hl
  obtain ⟨hx, hb, hml, hown, hts, hK, hA, hZ, hlocks, hr, hN⟩ := id C
  unfold f_Book_startNight at hf
  refine lv_aload_n hx hb d_Book_startNight_0 rfl (lv_at hl 0 rfl) ?_
  refine lv_iconst (v := 4) hx hb d_Book_startNight_1 (by decide) ?_
  refine lv_aload_n hx hb d_Book_startNight_2 rfl (lv_at hl 0 rfl) ?_
  refine xg_14_takings C w k337 d_Book_startNight_3 ?_
  obtain ⟨σ_2, h_1, hf⟩ := bp_e hf
  refine k_callV (As := [.int 4, .int (sI σ 18)]) (rest := []) C w (c_Book_addAct (q := q) h_1) cv_Book_addAct k938 (xr_14 C w) (by decide) hl.1 rfl (Nat.le_of_ble_eq_true rfl) d_Book_startNight_6 (fun H locs w => ?_)
  show WK p l e s m _ below meth c 2 g (wX g q) A none σ2 H locs (F0 m 9 ls [])
  refine lv_aload_n hx hb d_Book_startNight_9 rfl (lv_at hl 0 rfl) ?_
  refine lv_dup hx hb d_Book_startNight_10 rfl ?_
  refine xg_14_nights C w k335 d_Book_startNight_11 ?_
  refine lv_iconst (v := 1) hx hb d_Book_startNight_14 (by decide) ?_
  refine lv_iadd hx hb d_Book_startNight_15 ?_
  refine xp_14_nights C w k335 d_Book_startNight_16 (fun σ_3 H locs eσ_3 w => ?_)
  have hf := lt_e eσ_3 hf
  refine lv_aload_n hx hb d_Book_startNight_19 rfl (lv_at hl 0 rfl) ?_
  refine lv_iload_n hx hb d_Book_startNight_20 rfl (lv_at hl 1 rfl) ?_
  refine xp_14_crowd C w k343 d_Book_startNight_21 (fun σ_4 H locs eσ_4 w => ?_)
  have hf := lt_e eσ_4 hf
  refine lv_aload_n hx hb d_Book_startNight_24 rfl (lv_at hl 0 rfl) ?_
  refine lv_iconst (v := 0) hx hb d_Book_startNight_25 (by decide) ?_
  refine xp_14_rings C w k345 d_Book_startNight_26 (fun σ_5 H locs eσ_5 w => ?_)
  have hf := lt_e eσ_5 hf
  cases some_e hf
  exact k_vret C w d_Book_startNight_29
def f_Turn_coinsBehind_2 (x1 : Int32) (σ : St) : Option (Int32) :=
  some ((sI σ 28) - (x1 * (sI σ 33)))
set_option maxHeartbeats 4000000 in
set_option maxRecDepth 20000 in
theorem c_Turn_coinsBehind_2 {l : Launch} {g : GX} {q : Nat → Nat} {x1 : Int32}  {σ : St} {r : Int32} (hf : f_Turn_coinsBehind_2  x1 σ = some r) : KK l y_Turn_coinsBehind prog_10_method_3_code 2 (some .int) 0 g (wX g q) σ [.ref (q 23), .int x1] (some (.int r)) (wX g q) σ := by
  refine KK_of (plainFor_of_name (by decide)) (Nat.le_of_ble_eq_true rfl) (fun p e s m below meth c A ls C w hl => ?_)
  have hl : lv_has ls 2 [(0, .ref (q 23)), (1, .int x1)] := hl
  obtain ⟨hx, hb, hml, hown, hts, hK, hA, hZ, hlocks, hr, hN⟩ := id C
  unfold f_Turn_coinsBehind_2 at hf
  refine lv_aload_n hx hb d_Turn_coinsBehind_0 rfl (lv_at hl 0 rfl) ?_
  refine xg_23_coins C w k408 d_Turn_coinsBehind_1 ?_
  refine lv_iload_n hx hb d_Turn_coinsBehind_4 rfl (lv_at hl 1 rfl) ?_
  refine lv_aload_n hx hb d_Turn_coinsBehind_5 rfl (lv_at hl 0 rfl) ?_
  refine xg_23_price C w k417 d_Turn_coinsBehind_6 ?_
  refine lv_imul hx hb d_Turn_coinsBehind_9 ?_
  refine lv_isub hx hb d_Turn_coinsBehind_10 ?_
  cases some_e hf
  exact k_iret C w d_Turn_coinsBehind_11
def f_Turn_isRing_2 (x1 : Int32) (σ : St) : Option (Int32) :=
  if x1 < (sI σ 31) then
    some 0
  else
    some 1
set_option maxHeartbeats 4000000 in
set_option maxRecDepth 20000 in
theorem c_Turn_isRing_2 {l : Launch} {g : GX} {q : Nat → Nat} {x1 : Int32}  {σ : St} {r : Int32} (hf : f_Turn_isRing_2  x1 σ = some r) : KK l y_Turn_isRing prog_10_method_6_code 2 (some .boolean) 0 g (wX g q) σ [.ref (q 23), .int x1] (some (.int r)) (wX g q) σ := by
  refine KK_of (plainFor_of_name (by decide)) (Nat.le_of_ble_eq_true rfl) (fun p e s m below meth c A ls C w hl => ?_)
  have hl : lv_has ls 2 [(0, .ref (q 23)), (1, .int x1)] := hl
  obtain ⟨hx, hb, hml, hown, hts, hK, hA, hZ, hlocks, hr, hN⟩ := id C
  unfold f_Turn_isRing_2 at hf
  refine lv_iload_n hx hb d_Turn_isRing_0 rfl (lv_at hl 1 rfl) ?_
  refine lv_aload_n hx hb d_Turn_isRing_1 rfl (lv_at hl 0 rfl) ?_
  refine xg_23_bell C w k413 d_Turn_isRing_2 ?_
  refine lv_icmp_lt (tgt := 12) hx hb d_Turn_isRing_5 (by decide) (fun cd => ?_) (fun cd => ?_)
  · have hf := it_e cd hf
    refine lv_iconst (v := 0) hx hb d_Turn_isRing_12 (by decide) ?_
    cases some_e hf
    exact k_zret C w (by decide) d_Turn_isRing_13
  · have hf := if_e cd hf
    refine lv_iconst (v := 1) hx hb d_Turn_isRing_8 (by decide) ?_
    refine lv_goto (tgt := 13) hx hb d_Turn_isRing_9 (by decide) ?_
    cases some_e hf
    exact k_zret C w (by decide) d_Turn_isRing_13
def f_Turn_goesOn_2 (x1 : Int32) (x2 : Int32) (σ : St) : Option (Int32) :=
  if (sI σ 34) ≤ x1 then
    some 0
  else
    bp (f_Turn_coinsBehind_2 x1 σ) fun r_2 =>
    if (sI σ 33) ≤ r_2 then
      if x1 = 0 then
        some 1
      else
        bp (f_Turn_isRing_2 x2 σ) fun r_4 =>
        if r_4 = 0 then
          if (sI σ 29) < ((sI σ 31) - x2) then
            some 0
          else
            some 1
        else
          some 0
    else
      some 0
set_option maxHeartbeats 4000000 in
set_option maxRecDepth 20000 in
theorem c_Turn_goesOn_2 {l : Launch} {g : GX} {q : Nat → Nat} {x1 : Int32} {x2 : Int32}  {σ : St} {r : Int32} (hf : f_Turn_goesOn_2  x1 x2 σ = some r) : KK l y_Turn_goesOn prog_10_method_4_code 3 (some .boolean) 1 g (wX g q) σ [.ref (q 23), .int x1, .int x2] (some (.int r)) (wX g q) σ := by
  refine KK_of (plainFor_of_name (by decide)) (Nat.le_of_ble_eq_true rfl) (fun p e s m below meth c A ls C w hl => ?_)
  have hl : lv_has ls 3 [(0, .ref (q 23)), (1, .int x1), (2, .int x2)] := hl
  obtain ⟨hx, hb, hml, hown, hts, hK, hA, hZ, hlocks, hr, hN⟩ := id C
  unfold f_Turn_goesOn_2 at hf
  refine lv_iload_n hx hb d_Turn_goesOn_0 rfl (lv_at hl 1 rfl) ?_
  refine lv_aload_n hx hb d_Turn_goesOn_1 rfl (lv_at hl 0 rfl) ?_
  refine xg_23_tries C w k418 d_Turn_goesOn_2 ?_
  refine lv_icmp_ge (tgt := 20) hx hb d_Turn_goesOn_5 (by decide) (fun cd => ?_) (fun cd => ?_)
  · have hf := it_e cd hf
    refine lv_iconst (v := 0) hx hb d_Turn_goesOn_20 (by decide) ?_
    cases some_e hf
    exact k_zret C w (by decide) d_Turn_goesOn_21
  · have hf := if_e cd hf
    refine lv_aload_n hx hb d_Turn_goesOn_8 rfl (lv_at hl 0 rfl) ?_
    refine lv_iload_n hx hb d_Turn_goesOn_9 rfl (lv_at hl 1 rfl) ?_
    obtain ⟨r_2, h_1, hf⟩ := bp_e hf
    refine k_callV (As := [.int x1]) (rest := []) C w (c_Turn_coinsBehind_2 (q := q) h_1) cv_Turn_coinsBehind k844 (xr_23 C w) (by decide) hl.1 rfl (Nat.le_of_ble_eq_true rfl) d_Turn_goesOn_10 (fun H locs w => ?_)
    show WK p l e s m _ below meth c 1 g (wX g q) A (some (.int r)) σ H locs (F0 m 13 ls [.int r_2])
    refine lv_aload_n hx hb d_Turn_goesOn_13 rfl (lv_at hl 0 rfl) ?_
    refine xg_23_price C w k417 d_Turn_goesOn_14 ?_
    refine lv_icmp_ge (tgt := 22) hx hb d_Turn_goesOn_17 (by decide) (fun cd => ?_) (fun cd => ?_)
    · have hf := it_e cd hf
      refine lv_iload_n hx hb d_Turn_goesOn_22 rfl (lv_at hl 1 rfl) ?_
      refine lv_if_eq (tgt := 47) hx hb d_Turn_goesOn_23 (by decide) (fun cd => ?_) (fun cd => ?_)
      · have hf := it_e cd hf
        refine lv_iconst (v := 1) hx hb d_Turn_goesOn_47 (by decide) ?_
        refine lv_goto (tgt := 52) hx hb d_Turn_goesOn_48 (by decide) ?_
        cases some_e hf
        exact k_zret C w (by decide) d_Turn_goesOn_52
      · have hf := if_e cd hf
        refine lv_aload_n hx hb d_Turn_goesOn_26 rfl (lv_at hl 0 rfl) ?_
        refine lv_iload_n hx hb d_Turn_goesOn_27 rfl (lv_at hl 2 rfl) ?_
        obtain ⟨r_4, h_3, hf⟩ := bp_e hf
        refine k_callV (As := [.int x2]) (rest := []) C w (c_Turn_isRing_2 (q := q) h_3) cv_Turn_isRing k848 (xr_23 C w) (by decide) hl.1 rfl (Nat.le_of_ble_eq_true rfl) d_Turn_goesOn_28 (fun H locs w => ?_)
        show WK p l e s m _ below meth c 1 g (wX g q) A (some (.int r)) σ H locs (F0 m 31 ls [.int r_4])
        refine lv_if_ne (tgt := 51) hx hb d_Turn_goesOn_31 (by decide) (fun cd => ?_) (fun cd => ?_)
        · have hf := if_e cd hf
          refine lv_iconst (v := 0) hx hb d_Turn_goesOn_51 (by decide) ?_
          cases some_e hf
          exact k_zret C w (by decide) d_Turn_goesOn_52
        · have hf := it_e cd hf
          refine lv_aload_n hx hb d_Turn_goesOn_34 rfl (lv_at hl 0 rfl) ?_
          refine xg_23_bell C w k413 d_Turn_goesOn_35 ?_
          refine lv_iload_n hx hb d_Turn_goesOn_38 rfl (lv_at hl 2 rfl) ?_
          refine lv_isub hx hb d_Turn_goesOn_39 ?_
          refine lv_aload_n hx hb d_Turn_goesOn_40 rfl (lv_at hl 0 rfl) ?_
          refine xg_23_stays C w k409 d_Turn_goesOn_41 ?_
          refine lv_icmp_gt (tgt := 51) hx hb d_Turn_goesOn_44 (by decide) (fun cd => ?_) (fun cd => ?_)
          · have hf := it_e cd hf
            refine lv_iconst (v := 0) hx hb d_Turn_goesOn_51 (by decide) ?_
            cases some_e hf
            exact k_zret C w (by decide) d_Turn_goesOn_52
          · have hf := if_e cd hf
            refine lv_iconst (v := 1) hx hb d_Turn_goesOn_47 (by decide) ?_
            refine lv_goto (tgt := 52) hx hb d_Turn_goesOn_48 (by decide) ?_
            cases some_e hf
            exact k_zret C w (by decide) d_Turn_goesOn_52
    · have hf := if_e cd hf
      refine lv_iconst (v := 0) hx hb d_Turn_goesOn_20 (by decide) ?_
      cases some_e hf
      exact k_zret C w (by decide) d_Turn_goesOn_21
def f_Book_draw (x1 : Int32) (σ : St) : Option (Int32 × St) :=
  lt (uI σ 22 ((((1103515245 * ((sI σ 22)).toInt64) + 12345) &&& 2147483647)).toInt32) fun σ_1 =>
  if 0 < x1 then
    gd (nz x1) <|
    some ((iR ((sI σ_1 22) / 64) x1), σ_1)
  else
    some (0, σ_1)
set_option maxHeartbeats 4000000 in
set_option maxRecDepth 20000 in
theorem c_Book_draw {l : Launch} {g : GX} {q : Nat → Nat} {x1 : Int32}  {σ : St} {r : Int32} {σ2 : St} (hf : f_Book_draw  x1 σ = some (r, σ2)) : KK l y_Book_draw prog_2_method_12_code 2 (some .int) 0 g (wX g q) σ [.ref (q 14), .int x1] (some (.int r)) (wX g q) σ2 := by
  refine KK_of (plainFor_of_name (by decide)) (Nat.le_of_ble_eq_true rfl) (fun p e s m below meth c A ls C w hl => ?_)
  have hl : lv_has ls 2 [(0, .ref (q 14)), (1, .int x1)] := hl
  obtain ⟨hx, hb, hml, hown, hts, hK, hA, hZ, hlocks, hr, hN⟩ := id C
  unfold f_Book_draw at hf
  refine lv_aload_n hx hb d_Book_draw_0 rfl (lv_at hl 0 rfl) ?_
  refine lv_ldc2 (v := 1103515245) hx hb hown (hts _ k952) d_Book_draw_1 ?_
  refine lv_aload_n hx hb d_Book_draw_4 rfl (lv_at hl 0 rfl) ?_
  refine xg_14_seed C w k347 d_Book_draw_5 ?_
  refine lv_i2l hx hb d_Book_draw_8 rfl ?_
  refine lv_lmul hx hb d_Book_draw_9 ?_
  refine lv_ldc2 (v := 12345) hx hb hown (hts _ k953) d_Book_draw_10 ?_
  refine lv_ladd hx hb d_Book_draw_13 ?_
  refine lv_ldc2 (v := 2147483647) hx hb hown (hts _ k954) d_Book_draw_14 ?_
  refine lv_land hx hb d_Book_draw_17 ?_
  refine lv_l2i hx hb d_Book_draw_18 rfl ?_
  refine xp_14_seed C w k347 d_Book_draw_19 (fun σ_1 H locs eσ_1 w => ?_)
  have hf := lt_e eσ_1 hf
  refine lv_iload_n hx hb d_Book_draw_22 rfl (lv_at hl 1 rfl) ?_
  refine lv_if_gt (tgt := 30) hx hb d_Book_draw_23 (by decide) (fun cd => ?_) (fun cd => ?_)
  · have hf := it_e cd hf
    refine lv_aload_n hx hb d_Book_draw_30 rfl (lv_at hl 0 rfl) ?_
    refine xg_14_seed C w k347 d_Book_draw_31 ?_
    refine lv_bipush (v := 64) hx hb d_Book_draw_34 (by decide) ?_
    refine lv_idiv hx hb d_Book_draw_36 (by decide) ?_
    refine lv_iload_n hx hb d_Book_draw_37 rfl (lv_at hl 1 rfl) ?_
    obtain ⟨g_2, hf⟩ := gd_e hf
    refine r_irem hx hb d_Book_draw_38 (nz_e g_2) ?_
    obtain ⟨rfl, rfl⟩ := some2_e hf
    exact k_iret C w d_Book_draw_39
  · have hf := if_e cd hf
    refine lv_iconst (v := 0) hx hb d_Book_draw_26 (by decide) ?_
    refine lv_goto (tgt := 39) hx hb d_Book_draw_27 (by decide) ?_
    obtain ⟨rfl, rfl⟩ := some2_e hf
    exact k_iret C w d_Book_draw_39
def f_Book_keep_25 (x4 : Int32) (t0 : Int32) (t1 : Int32) (σ : St) : Option (St) :=
  lt ((t1 + t0)) fun x_1 =>
  gd (inB (iR (sI σ 24) 700) 700) <|
  lt (uA σ 13 (upd (sA σ 13) (iR (sI σ 24) 700).toNatClampNeg ((x_1 * 128) + x4))) fun σ_3 =>
  lt (uI σ_3 24 ((sI σ_3 24) + 1)) fun σ_4 =>
  lt (uI σ_4 18 ((sI σ_4 18) + (sA σ_4 9 (2 : Int32).toNatClampNeg))) fun σ_5 =>
  if (sI σ_5 23) ≤ 0 then
    some σ_5
  else
    lt (((sI σ_5 23) - 1)) fun x_6 =>
    gd (inB x_6 20) <|
    gd (inB x_6 20) <|
    lt (uA σ_5 12 (upd (sA σ_5 12) x_6.toNatClampNeg ((sA σ_5 12 x_6.toNatClampNeg) + 1))) fun σ_9 =>
    some σ_9
def f_Book_keep (x1 : Int32) (x2 : Int32) (x3 : Int32) (x4 : Int32) (σ : St) : Option (St) :=
  if x3 = 0 then
    f_Book_keep_25 x4 0 ((((((sI σ 17) * 8) + x1) * 8) + x2) * 2) σ
  else
    f_Book_keep_25 x4 1 ((((((sI σ 17) * 8) + x1) * 8) + x2) * 2) σ
set_option maxHeartbeats 4000000 in
set_option maxRecDepth 20000 in
theorem t_Book_keep_25 {σ2 : St} (C : Cx g A p s m av meth c prog_2_method_8_code 6 "BellHammer$Book" none)  {x4 : Int32} {t0 : Int32} {t1 : Int32} {σ : St} {H : Heap} {locs : List Loc} {ls : Array Slot} (hf : f_Book_keep_25   x4 t0 t1 σ = some σ2) (w : Wd g (wX g q) A s σ H locs) (hl : lv_has ls 6 [(0, .ref (q 14)), (4, .int x4)]) : WK p l e s m av below meth c 0 g (wX g q) A none σ2 H locs (F0 m 25 ls [.int t0, .int t1]) := by
  obtain ⟨hx, hb, hml, hown, hts, hK, hA, hZ, hlocks, hr, hN⟩ := id C
  unfold f_Book_keep_25 at hf
  refine lv_iadd hx hb d_Book_keep_25 ?_
  refine lv_topi (fun x_1 ex_1 => ?_)
  have hf := lt_e ex_1 hf
  refine lv_istore (lv' := [(5, .int x_1), (0, .ref (q 14)), (4, .int x4)]) hx hb d_Book_keep_26 hl (by decide) rfl (fun ls hl => ?_)
  refine lv_aload_n hx hb d_Book_keep_28 rfl (lv_at hl 1 rfl) ?_
  refine xg_14_blows C w k354 d_Book_keep_29 ?_
  refine lv_aload_n hx hb d_Book_keep_32 rfl (lv_at hl 1 rfl) ?_
  refine xg_14_keptBlows C w k355 d_Book_keep_33 ?_
  refine lv_sipush (v := 700) hx hb d_Book_keep_36 (by decide) ?_
  refine r_irem hx hb d_Book_keep_39 (by decide) ?_
  refine lv_iload hx hb d_Book_keep_40 (lv_at hl 0 rfl) ?_
  refine lv_sipush (v := 128) hx hb d_Book_keep_42 (by decide) ?_
  refine lv_imul hx hb d_Book_keep_45 ?_
  refine lv_iload hx hb d_Book_keep_46 (lv_at hl 2 rfl) ?_
  refine lv_iadd hx hb d_Book_keep_48 ?_
  obtain ⟨g_2, hf⟩ := gd_e hf
  refine xs_19 C w g_2 d_Book_keep_49 (fun σ_3 H locs eσ_3 w => ?_)
  have hf := lt_e eσ_3 hf
  refine lv_aload_n hx hb d_Book_keep_50 rfl (lv_at hl 1 rfl) ?_
  refine lv_dup hx hb d_Book_keep_51 rfl ?_
  refine xg_14_keptBlows C w k355 d_Book_keep_52 ?_
  refine lv_iconst (v := 1) hx hb d_Book_keep_55 (by decide) ?_
  refine lv_iadd hx hb d_Book_keep_56 ?_
  refine xp_14_keptBlows C w k355 d_Book_keep_57 (fun σ_4 H locs eσ_4 w => ?_)
  have hf := lt_e eσ_4 hf
  refine lv_aload_n hx hb d_Book_keep_60 rfl (lv_at hl 1 rfl) ?_
  refine lv_dup hx hb d_Book_keep_61 rfl ?_
  refine xg_14_takings C w k337 d_Book_keep_62 ?_
  refine lv_aload_n hx hb d_Book_keep_65 rfl (lv_at hl 1 rfl) ?_
  refine xg_14_now C w k341 d_Book_keep_66 ?_
  refine lv_iconst (v := 2) hx hb d_Book_keep_69 (by decide) ?_
  refine xl_15 C w (by decide) d_Book_keep_70 ?_
  refine lv_iadd hx hb d_Book_keep_71 ?_
  refine xp_14_takings C w k337 d_Book_keep_72 (fun σ_5 H locs eσ_5 w => ?_)
  have hf := lt_e eσ_5 hf
  refine lv_aload_n hx hb d_Book_keep_75 rfl (lv_at hl 1 rfl) ?_
  refine xg_14_acts C w k349 d_Book_keep_76 ?_
  refine lv_if_le (tgt := 97) hx hb d_Book_keep_79 (by decide) (fun cd => ?_) (fun cd => ?_)
  · have hf := it_e cd hf
    cases some_e hf
    exact k_vret C w d_Book_keep_97
  · have hf := if_e cd hf
    refine lv_aload_n hx hb d_Book_keep_82 rfl (lv_at hl 1 rfl) ?_
    refine xg_14_actBlows C w k353 d_Book_keep_83 ?_
    refine lv_aload_n hx hb d_Book_keep_86 rfl (lv_at hl 1 rfl) ?_
    refine xg_14_acts C w k349 d_Book_keep_87 ?_
    refine lv_iconst (v := 1) hx hb d_Book_keep_90 (by decide) ?_
    refine lv_isub hx hb d_Book_keep_91 ?_
    refine lv_topi (fun x_6 ex_6 => ?_)
    have hf := lt_e ex_6 hf
    refine lv_dup2_11 hx hb d_Book_keep_92 rfl rfl ?_
    obtain ⟨g_7, hf⟩ := gd_e hf
    refine xl_18 C w g_7 d_Book_keep_93 ?_
    refine lv_iconst (v := 1) hx hb d_Book_keep_94 (by decide) ?_
    refine lv_iadd hx hb d_Book_keep_95 ?_
    obtain ⟨g_8, hf⟩ := gd_e hf
    refine xs_18 C w g_8 d_Book_keep_96 (fun σ_9 H locs eσ_9 w => ?_)
    have hf := lt_e eσ_9 hf
    cases some_e hf
    exact k_vret C w d_Book_keep_97
set_option maxHeartbeats 4000000 in
set_option maxRecDepth 20000 in
theorem c_Book_keep {l : Launch} {g : GX} {q : Nat → Nat} {x1 : Int32} {x2 : Int32} {x3 : Int32} {x4 : Int32}  {σ : St} {σ2 : St} (hf : f_Book_keep  x1 x2 x3 x4 σ = some σ2) : KK l y_Book_keep prog_2_method_8_code 6 none 0 g (wX g q) σ [.ref (q 14), .int x1, .int x2, .int x3, .int x4] none (wX g q) σ2 := by
  refine KK_of (plainFor_of_name (by decide)) (Nat.le_of_ble_eq_true rfl) (fun p e s m below meth c A ls C w hl => ?_)
  have hl : lv_has ls 6 [(0, .ref (q 14)), (1, .int x1), (2, .int x2), (3, .int x3), (4, .int x4)] := hl
  obtain ⟨hx, hb, hml, hown, hts, hK, hA, hZ, hlocks, hr, hN⟩ := id C
  unfold f_Book_keep at hf
  refine lv_aload_n hx hb d_Book_keep_0 rfl (lv_at hl 0 rfl) ?_
  refine xg_14_nights C w k335 d_Book_keep_1 ?_
  refine lv_bipush (v := 8) hx hb d_Book_keep_4 (by decide) ?_
  refine lv_imul hx hb d_Book_keep_6 ?_
  refine lv_iload_n hx hb d_Book_keep_7 rfl (lv_at hl 1 rfl) ?_
  refine lv_iadd hx hb d_Book_keep_8 ?_
  refine lv_bipush (v := 8) hx hb d_Book_keep_9 (by decide) ?_
  refine lv_imul hx hb d_Book_keep_11 ?_
  refine lv_iload_n hx hb d_Book_keep_12 rfl (lv_at hl 2 rfl) ?_
  refine lv_iadd hx hb d_Book_keep_13 ?_
  refine lv_iconst (v := 2) hx hb d_Book_keep_14 (by decide) ?_
  refine lv_imul hx hb d_Book_keep_15 ?_
  refine lv_iload_n hx hb d_Book_keep_16 rfl (lv_at hl 3 rfl) ?_
  refine lv_if_eq (tgt := 24) hx hb d_Book_keep_17 (by decide) (fun cd => ?_) (fun cd => ?_)
  · have hf := it_e cd hf
    refine lv_iconst (v := 0) hx hb d_Book_keep_24 (by decide) ?_
    exact t_Book_keep_25 C  hf w (lv_sub hl [0, 4] rfl)
  · have hf := if_e cd hf
    refine lv_iconst (v := 1) hx hb d_Book_keep_20 (by decide) ?_
    refine lv_goto (tgt := 25) hx hb d_Book_keep_21 (by decide) ?_
    exact t_Book_keep_25 C  hf w (lv_sub hl [0, 4] rfl)
def f_Turn_isNear_2 (x1 : Int32) (σ : St) : Option (Int32) :=
  if (sI σ 31) ≤ x1 then
    some 0
  else
    if (sI σ 35) < ((sI σ 31) - x1) then
      some 0
    else
      some 1
set_option maxHeartbeats 4000000 in
set_option maxRecDepth 20000 in
theorem c_Turn_isNear_2 {l : Launch} {g : GX} {q : Nat → Nat} {x1 : Int32}  {σ : St} {r : Int32} (hf : f_Turn_isNear_2  x1 σ = some r) : KK l y_Turn_isNear prog_10_method_7_code 2 (some .boolean) 0 g (wX g q) σ [.ref (q 23), .int x1] (some (.int r)) (wX g q) σ := by
  refine KK_of (plainFor_of_name (by decide)) (Nat.le_of_ble_eq_true rfl) (fun p e s m below meth c A ls C w hl => ?_)
  have hl : lv_has ls 2 [(0, .ref (q 23)), (1, .int x1)] := hl
  obtain ⟨hx, hb, hml, hown, hts, hK, hA, hZ, hlocks, hr, hN⟩ := id C
  unfold f_Turn_isNear_2 at hf
  refine lv_iload_n hx hb d_Turn_isNear_0 rfl (lv_at hl 1 rfl) ?_
  refine lv_aload_n hx hb d_Turn_isNear_1 rfl (lv_at hl 0 rfl) ?_
  refine xg_23_bell C w k413 d_Turn_isNear_2 ?_
  refine lv_icmp_ge (tgt := 25) hx hb d_Turn_isNear_5 (by decide) (fun cd => ?_) (fun cd => ?_)
  · have hf := it_e cd hf
    refine lv_iconst (v := 0) hx hb d_Turn_isNear_25 (by decide) ?_
    cases some_e hf
    exact k_zret C w (by decide) d_Turn_isNear_26
  · have hf := if_e cd hf
    refine lv_aload_n hx hb d_Turn_isNear_8 rfl (lv_at hl 0 rfl) ?_
    refine xg_23_bell C w k413 d_Turn_isNear_9 ?_
    refine lv_iload_n hx hb d_Turn_isNear_12 rfl (lv_at hl 1 rfl) ?_
    refine lv_isub hx hb d_Turn_isNear_13 ?_
    refine lv_aload_n hx hb d_Turn_isNear_14 rfl (lv_at hl 0 rfl) ?_
    refine xg_23_near C w k419 d_Turn_isNear_15 ?_
    refine lv_icmp_gt (tgt := 25) hx hb d_Turn_isNear_18 (by decide) (fun cd => ?_) (fun cd => ?_)
    · have hf := it_e cd hf
      refine lv_iconst (v := 0) hx hb d_Turn_isNear_25 (by decide) ?_
      cases some_e hf
      exact k_zret C w (by decide) d_Turn_isNear_26
    · have hf := if_e cd hf
      refine lv_iconst (v := 1) hx hb d_Turn_isNear_21 (by decide) ?_
      refine lv_goto (tgt := 26) hx hb d_Turn_isNear_22 (by decide) ?_
      cases some_e hf
      exact k_zret C w (by decide) d_Turn_isNear_26
def f_Turn_brings_2 (x1 : Int32) (σ : St) : Option (Int32) :=
  bp (f_Turn_isRing_2 x1 σ) fun r_2 =>
  if r_2 = 0 then
    bp (f_Turn_isNear_2 x1 σ) fun r_4 =>
    if r_4 = 0 then
      some (sA σ 16 (2 : Int32).toNatClampNeg)
    else
      some (sA σ 16 (1 : Int32).toNatClampNeg)
  else
    some (sA σ 16 (0 : Int32).toNatClampNeg)
set_option maxHeartbeats 4000000 in
set_option maxRecDepth 20000 in
theorem c_Turn_brings_2 {l : Launch} {g : GX} {q : Nat → Nat} {x1 : Int32}  {σ : St} {r : Int32} (hf : f_Turn_brings_2  x1 σ = some r) : KK l y_Turn_brings prog_10_method_8_code 2 (some .int) 1 g (wX g q) σ [.ref (q 23), .int x1] (some (.int r)) (wX g q) σ := by
  refine KK_of (plainFor_of_name (by decide)) (Nat.le_of_ble_eq_true rfl) (fun p e s m below meth c A ls C w hl => ?_)
  have hl : lv_has ls 2 [(0, .ref (q 23)), (1, .int x1)] := hl
  obtain ⟨hx, hb, hml, hown, hts, hK, hA, hZ, hlocks, hr, hN⟩ := id C
  unfold f_Turn_brings_2 at hf
  refine lv_aload_n hx hb d_Turn_brings_0 rfl (lv_at hl 0 rfl) ?_
  refine lv_iload_n hx hb d_Turn_brings_1 rfl (lv_at hl 1 rfl) ?_
  obtain ⟨r_2, h_1, hf⟩ := bp_e hf
  refine k_callV (As := [.int x1]) (rest := []) C w (c_Turn_isRing_2 (q := q) h_1) cv_Turn_isRing k848 (xr_23 C w) (by decide) hl.1 rfl (Nat.le_of_ble_eq_true rfl) d_Turn_brings_2 (fun H locs w => ?_)
  show WK p l e s m _ below meth c 1 g (wX g q) A (some (.int r)) σ H locs (F0 m 5 ls [.int r_2])
  refine lv_if_eq (tgt := 15) hx hb d_Turn_brings_5 (by decide) (fun cd => ?_) (fun cd => ?_)
  · have hf := it_e cd hf
    refine lv_aload_n hx hb d_Turn_brings_15 rfl (lv_at hl 0 rfl) ?_
    refine lv_iload_n hx hb d_Turn_brings_16 rfl (lv_at hl 1 rfl) ?_
    obtain ⟨r_4, h_3, hf⟩ := bp_e hf
    refine k_callV (As := [.int x1]) (rest := []) C w (c_Turn_isNear_2 (q := q) h_3) cv_Turn_isNear k868 (xr_23 C w) (by decide) hl.1 rfl (Nat.le_of_ble_eq_true rfl) d_Turn_brings_17 (fun H locs w => ?_)
    show WK p l e s m _ below meth c 1 g (wX g q) A (some (.int r)) σ H locs (F0 m 20 ls [.int r_4])
    refine lv_if_eq (tgt := 32) hx hb d_Turn_brings_20 (by decide) (fun cd => ?_) (fun cd => ?_)
    · have hf := it_e cd hf
      refine lv_aload_n hx hb d_Turn_brings_32 rfl (lv_at hl 0 rfl) ?_
      refine xg_23_comes C w k422 d_Turn_brings_33 ?_
      refine lv_iconst (v := 2) hx hb d_Turn_brings_36 (by decide) ?_
      refine xl_24 C w (by decide) d_Turn_brings_37 ?_
      cases some_e hf
      exact k_iret C w d_Turn_brings_38
    · have hf := if_e cd hf
      refine lv_aload_n hx hb d_Turn_brings_23 rfl (lv_at hl 0 rfl) ?_
      refine xg_23_comes C w k422 d_Turn_brings_24 ?_
      refine lv_iconst (v := 1) hx hb d_Turn_brings_27 (by decide) ?_
      refine xl_24 C w (by decide) d_Turn_brings_28 ?_
      refine lv_goto (tgt := 38) hx hb d_Turn_brings_29 (by decide) ?_
      cases some_e hf
      exact k_iret C w d_Turn_brings_38
  · have hf := if_e cd hf
    refine lv_aload_n hx hb d_Turn_brings_8 rfl (lv_at hl 0 rfl) ?_
    refine xg_23_comes C w k422 d_Turn_brings_9 ?_
    refine lv_iconst (v := 0) hx hb d_Turn_brings_12 (by decide) ?_
    refine xl_24 C w (by decide) d_Turn_brings_13 ?_
    cases some_e hf
    exact k_iret C w d_Turn_brings_14
