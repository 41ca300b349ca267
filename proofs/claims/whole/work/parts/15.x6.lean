variable {p : Program} {l : Launch} {e : Env} {s : State} {m : MethodId} {av : Array Value} {below : List Frame} {meth : Method} {c : Code} {g : GX} {q : Nat → Nat} {A : Nat → Prop}
theorem d_BH_haveTurn_0 : decode prog_1_method_42_code 0 = .ok (.iconst 0, 1) := by decide +kernel
theorem d_BH_haveTurn_1 : decode prog_1_method_42_code 1 = .ok (.istore_n 2, 1) := by decide +kernel
theorem d_BH_haveTurn_2 : decode prog_1_method_42_code 2 = .ok (.iconst 0, 1) := by decide +kernel
theorem d_BH_haveTurn_3 : decode prog_1_method_42_code 3 = .ok (.istore_n 3, 1) := by decide +kernel
theorem d_BH_haveTurn_4 : decode prog_1_method_42_code 4 = .ok (.iload_n 3, 1) := by decide +kernel
theorem d_BH_haveTurn_5 : decode prog_1_method_42_code 5 = .ok (.iconst 4, 1) := by decide +kernel
theorem d_BH_haveTurn_6 : decode prog_1_method_42_code 6 = .ok (.if_icmp .ge 196, 3) := by decide +kernel
theorem d_BH_haveTurn_9 : decode prog_1_method_42_code 9 = .ok (.aload_n 0, 1) := by decide +kernel
theorem d_BH_haveTurn_10 : decode prog_1_method_42_code 10 = .ok (.getfield 40, 3) := by decide +kernel
theorem d_BH_haveTurn_13 : decode prog_1_method_42_code 13 = .ok (.iload_n 3, 1) := by decide +kernel
theorem d_BH_haveTurn_14 : decode prog_1_method_42_code 14 = .ok (.iload_n 2, 1) := by decide +kernel
theorem d_BH_haveTurn_15 : decode prog_1_method_42_code 15 = .ok (.invokevirtual 287, 3) := by decide +kernel
theorem d_BH_haveTurn_18 : decode prog_1_method_42_code 18 = .ok (.ifCond .eq 184, 3) := by decide +kernel
theorem d_BH_haveTurn_21 : decode prog_1_method_42_code 21 = .ok (.aload_n 0, 1) := by decide +kernel
theorem d_BH_haveTurn_22 : decode prog_1_method_42_code 22 = .ok (.getfield 33, 3) := by decide +kernel
theorem d_BH_haveTurn_25 : decode prog_1_method_42_code 25 = .ok (.aload_n 0, 1) := by decide +kernel
theorem d_BH_haveTurn_26 : decode prog_1_method_42_code 26 = .ok (.getfield 26, 3) := by decide +kernel
theorem d_BH_haveTurn_29 : decode prog_1_method_42_code 29 = .ok (.getfield 290, 3) := by decide +kernel
theorem d_BH_haveTurn_32 : decode prog_1_method_42_code 32 = .ok (.iload_n 3, 1) := by decide +kernel
theorem d_BH_haveTurn_33 : decode prog_1_method_42_code 33 = .ok (.iload_n 2, 1) := by decide +kernel
theorem d_BH_haveTurn_34 : decode prog_1_method_42_code 34 = .ok (.aload_n 0, 1) := by decide +kernel
theorem d_BH_haveTurn_35 : decode prog_1_method_42_code 35 = .ok (.getfield 26, 3) := by decide +kernel
theorem d_BH_haveTurn_38 : decode prog_1_method_42_code 38 = .ok (.getfield 293, 3) := by decide +kernel
theorem d_BH_haveTurn_41 : decode prog_1_method_42_code 41 = .ok (.invokevirtual 179, 3) := by decide +kernel
theorem d_BH_haveTurn_44 : decode prog_1_method_42_code 44 = .ok (.aload_n 0, 1) := by decide +kernel
theorem d_BH_haveTurn_45 : decode prog_1_method_42_code 45 = .ok (.getfield 33, 3) := by decide +kernel
theorem d_BH_haveTurn_48 : decode prog_1_method_42_code 48 = .ok (.aload_n 0, 1) := by decide +kernel
theorem d_BH_haveTurn_49 : decode prog_1_method_42_code 49 = .ok (.getfield 40, 3) := by decide +kernel
theorem d_BH_haveTurn_52 : decode prog_1_method_42_code 52 = .ok (.getfield 296, 3) := by decide +kernel
theorem d_BH_haveTurn_55 : decode prog_1_method_42_code 55 = .ok (.aload_n 0, 1) := by decide +kernel
theorem d_BH_haveTurn_56 : decode prog_1_method_42_code 56 = .ok (.getfield 40, 3) := by decide +kernel
theorem d_BH_haveTurn_59 : decode prog_1_method_42_code 59 = .ok (.iload_n 3, 1) := by decide +kernel
theorem d_BH_haveTurn_60 : decode prog_1_method_42_code 60 = .ok (.invokevirtual 299, 3) := by decide +kernel
theorem d_BH_haveTurn_63 : decode prog_1_method_42_code 63 = .ok (.invokevirtual 183, 3) := by decide +kernel
theorem d_BH_haveTurn_66 : decode prog_1_method_42_code 66 = .ok (.aload_n 0, 1) := by decide +kernel
theorem d_BH_haveTurn_67 : decode prog_1_method_42_code 67 = .ok (.getfield 33, 3) := by decide +kernel
theorem d_BH_haveTurn_70 : decode prog_1_method_42_code 70 = .ok (.aload_n 0, 1) := by decide +kernel
theorem d_BH_haveTurn_71 : decode prog_1_method_42_code 71 = .ok (.getfield 54, 3) := by decide +kernel
theorem d_BH_haveTurn_74 : decode prog_1_method_42_code 74 = .ok (.invokevirtual 187, 3) := by decide +kernel
theorem d_BH_haveTurn_77 : decode prog_1_method_42_code 77 = .ok (.aload_n 0, 1) := by decide +kernel
theorem d_BH_haveTurn_78 : decode prog_1_method_42_code 78 = .ok (.getfield 26, 3) := by decide +kernel
theorem d_BH_haveTurn_81 : decode prog_1_method_42_code 81 = .ok (.getfield 111, 3) := by decide +kernel
theorem d_BH_haveTurn_84 : decode prog_1_method_42_code 84 = .ok (.iand, 1) := by decide +kernel
theorem d_BH_haveTurn_85 : decode prog_1_method_42_code 85 = .ok (.ifCond .eq 7, 3) := by decide +kernel
theorem d_BH_haveTurn_88 : decode prog_1_method_42_code 88 = .ok (.iconst 1, 1) := by decide +kernel
theorem d_BH_haveTurn_89 : decode prog_1_method_42_code 89 = .ok (.goto 4, 3) := by decide +kernel
theorem d_BH_haveTurn_92 : decode prog_1_method_42_code 92 = .ok (.iconst 0, 1) := by decide +kernel
theorem d_BH_haveTurn_93 : decode prog_1_method_42_code 93 = .ok (.istore 4, 2) := by decide +kernel
theorem d_BH_haveTurn_95 : decode prog_1_method_42_code 95 = .ok (.aload_n 0, 1) := by decide +kernel
theorem d_BH_haveTurn_96 : decode prog_1_method_42_code 96 = .ok (.getfield 26, 3) := by decide +kernel
theorem d_BH_haveTurn_99 : decode prog_1_method_42_code 99 = .ok (.aload_n 0, 1) := by decide +kernel
theorem d_BH_haveTurn_100 : decode prog_1_method_42_code 100 = .ok (.getfield 40, 3) := by decide +kernel
theorem d_BH_haveTurn_103 : decode prog_1_method_42_code 103 = .ok (.getfield 262, 3) := by decide +kernel
theorem d_BH_haveTurn_106 : decode prog_1_method_42_code 106 = .ok (.iconst 1, 1) := by decide +kernel
theorem d_BH_haveTurn_107 : decode prog_1_method_42_code 107 = .ok (.iadd, 1) := by decide +kernel
theorem d_BH_haveTurn_108 : decode prog_1_method_42_code 108 = .ok (.invokevirtual 302, 3) := by decide +kernel
theorem d_BH_haveTurn_111 : decode prog_1_method_42_code 111 = .ok (.istore 5, 2) := by decide +kernel
theorem d_BH_haveTurn_113 : decode prog_1_method_42_code 113 = .ok (.aload_n 0, 1) := by decide +kernel
theorem d_BH_haveTurn_114 : decode prog_1_method_42_code 114 = .ok (.getfield 40, 3) := by decide +kernel
theorem d_BH_haveTurn_117 : decode prog_1_method_42_code 117 = .ok (.iload_n 3, 1) := by decide +kernel
theorem d_BH_haveTurn_118 : decode prog_1_method_42_code 118 = .ok (.iload 5, 2) := by decide +kernel
theorem d_BH_haveTurn_120 : decode prog_1_method_42_code 120 = .ok (.iload 4, 2) := by decide +kernel
theorem d_BH_haveTurn_122 : decode prog_1_method_42_code 122 = .ok (.invokevirtual 167, 3) := by decide +kernel
theorem d_BH_haveTurn_125 : decode prog_1_method_42_code 125 = .ok (.istore_n 2, 1) := by decide +kernel
theorem d_BH_haveTurn_126 : decode prog_1_method_42_code 126 = .ok (.aload_n 0, 1) := by decide +kernel
theorem d_BH_haveTurn_127 : decode prog_1_method_42_code 127 = .ok (.getfield 26, 3) := by decide +kernel
theorem d_BH_haveTurn_130 : decode prog_1_method_42_code 130 = .ok (.iload_n 1, 1) := by decide +kernel
theorem d_BH_haveTurn_131 : decode prog_1_method_42_code 131 = .ok (.iload 5, 2) := by decide +kernel
theorem d_BH_haveTurn_133 : decode prog_1_method_42_code 133 = .ok (.iload 4, 2) := by decide +kernel
theorem d_BH_haveTurn_135 : decode prog_1_method_42_code 135 = .ok (.iload_n 2, 1) := by decide +kernel
theorem d_BH_haveTurn_136 : decode prog_1_method_42_code 136 = .ok (.invokevirtual 305, 3) := by decide +kernel
theorem d_BH_haveTurn_139 : decode prog_1_method_42_code 139 = .ok (.aload_n 0, 1) := by decide +kernel
theorem d_BH_haveTurn_140 : decode prog_1_method_42_code 140 = .ok (.getfield 26, 3) := by decide +kernel
theorem d_BH_haveTurn_143 : decode prog_1_method_42_code 143 = .ok (.dup, 1) := by decide +kernel
theorem d_BH_haveTurn_144 : decode prog_1_method_42_code 144 = .ok (.getfield 293, 3) := by decide +kernel
theorem d_BH_haveTurn_147 : decode prog_1_method_42_code 147 = .ok (.aload_n 0, 1) := by decide +kernel
theorem d_BH_haveTurn_148 : decode prog_1_method_42_code 148 = .ok (.getfield 40, 3) := by decide +kernel
theorem d_BH_haveTurn_151 : decode prog_1_method_42_code 151 = .ok (.iload_n 2, 1) := by decide +kernel
theorem d_BH_haveTurn_152 : decode prog_1_method_42_code 152 = .ok (.invokevirtual 265, 3) := by decide +kernel
theorem d_BH_haveTurn_155 : decode prog_1_method_42_code 155 = .ok (.ifCond .eq 7, 3) := by decide +kernel
theorem d_BH_haveTurn_158 : decode prog_1_method_42_code 158 = .ok (.iconst 1, 1) := by decide +kernel
theorem d_BH_haveTurn_159 : decode prog_1_method_42_code 159 = .ok (.goto 4, 3) := by decide +kernel
theorem d_BH_haveTurn_162 : decode prog_1_method_42_code 162 = .ok (.iconst 0, 1) := by decide +kernel
theorem d_BH_haveTurn_163 : decode prog_1_method_42_code 163 = .ok (.iadd, 1) := by decide +kernel
theorem d_BH_haveTurn_164 : decode prog_1_method_42_code 164 = .ok (.putfield 293, 3) := by decide +kernel
theorem d_BH_haveTurn_167 : decode prog_1_method_42_code 167 = .ok (.aload_n 0, 1) := by decide +kernel
theorem d_BH_haveTurn_168 : decode prog_1_method_42_code 168 = .ok (.getfield 26, 3) := by decide +kernel
theorem d_BH_haveTurn_171 : decode prog_1_method_42_code 171 = .ok (.sipush 999, 3) := by decide +kernel
theorem d_BH_haveTurn_174 : decode prog_1_method_42_code 174 = .ok (.aload_n 0, 1) := by decide +kernel
theorem d_BH_haveTurn_175 : decode prog_1_method_42_code 175 = .ok (.getfield 26, 3) := by decide +kernel
theorem d_BH_haveTurn_178 : decode prog_1_method_42_code 178 = .ok (.getfield 290, 3) := by decide +kernel
theorem d_BH_haveTurn_181 : decode prog_1_method_42_code 181 = .ok (.aload_n 0, 1) := by decide +kernel
theorem d_BH_haveTurn_182 : decode prog_1_method_42_code 182 = .ok (.getfield 40, 3) := by decide +kernel
theorem d_BH_haveTurn_185 : decode prog_1_method_42_code 185 = .ok (.iload_n 2, 1) := by decide +kernel
theorem d_BH_haveTurn_186 : decode prog_1_method_42_code 186 = .ok (.invokevirtual 309, 3) := by decide +kernel
theorem d_BH_haveTurn_189 : decode prog_1_method_42_code 189 = .ok (.iadd, 1) := by decide +kernel
theorem d_BH_haveTurn_190 : decode prog_1_method_42_code 190 = .ok (.invokestatic 312, 3) := by decide +kernel
theorem d_BH_haveTurn_193 : decode prog_1_method_42_code 193 = .ok (.putfield 290, 3) := by decide +kernel
theorem d_BH_haveTurn_196 : decode prog_1_method_42_code 196 = .ok (.iinc 3 1, 3) := by decide +kernel
theorem d_BH_haveTurn_199 : decode prog_1_method_42_code 199 = .ok (.goto (-195), 3) := by decide +kernel
theorem d_BH_haveTurn_202 : decode prog_1_method_42_code 202 = .ok (.return_, 1) := by decide +kernel
theorem d_BH_night_0 : decode prog_1_method_19_code 0 = .ok (.aload_n 0, 1) := by decide +kernel
theorem d_BH_night_1 : decode prog_1_method_19_code 1 = .ok (.getfield 26, 3) := by decide +kernel
theorem d_BH_night_4 : decode prog_1_method_19_code 4 = .ok (.getfield 120, 3) := by decide +kernel
theorem d_BH_night_7 : decode prog_1_method_19_code 7 = .ok (.sipush 999, 3) := by decide +kernel
theorem d_BH_night_10 : decode prog_1_method_19_code 10 = .ok (.if_icmp .lt 15, 3) := by decide +kernel
theorem d_BH_night_13 : decode prog_1_method_19_code 13 = .ok (.aload_n 0, 1) := by decide +kernel
theorem d_BH_night_14 : decode prog_1_method_19_code 14 = .ok (.getfield 65, 3) := by decide +kernel
theorem d_BH_night_17 : decode prog_1_method_19_code 17 = .ok (.iconst 2, 1) := by decide +kernel
theorem d_BH_night_18 : decode prog_1_method_19_code 18 = .ok (.dup2, 1) := by decide +kernel
theorem d_BH_night_19 : decode prog_1_method_19_code 19 = .ok (.iaload, 1) := by decide +kernel
theorem d_BH_night_20 : decode prog_1_method_19_code 20 = .ok (.iconst 1, 1) := by decide +kernel
theorem d_BH_night_21 : decode prog_1_method_19_code 21 = .ok (.iadd, 1) := by decide +kernel
theorem d_BH_night_22 : decode prog_1_method_19_code 22 = .ok (.iastore, 1) := by decide +kernel
theorem d_BH_night_23 : decode prog_1_method_19_code 23 = .ok (.iconst (-1), 1) := by decide +kernel
theorem d_BH_night_24 : decode prog_1_method_19_code 24 = .ok (.ireturn, 1) := by decide +kernel
theorem d_BH_night_25 : decode prog_1_method_19_code 25 = .ok (.aload_n 0, 1) := by decide +kernel
theorem d_BH_night_26 : decode prog_1_method_19_code 26 = .ok (.getfield 26, 3) := by decide +kernel
theorem d_BH_night_29 : decode prog_1_method_19_code 29 = .ok (.getfield 123, 3) := by decide +kernel
theorem d_BH_night_32 : decode prog_1_method_19_code 32 = .ok (.istore_n 1, 1) := by decide +kernel
theorem d_BH_night_33 : decode prog_1_method_19_code 33 = .ok (.aload_n 0, 1) := by decide +kernel
theorem d_BH_night_34 : decode prog_1_method_19_code 34 = .ok (.getfield 26, 3) := by decide +kernel
theorem d_BH_night_37 : decode prog_1_method_19_code 37 = .ok (.aload_n 0, 1) := by decide +kernel
theorem d_BH_night_38 : decode prog_1_method_19_code 38 = .ok (.getfield 54, 3) := by decide +kernel
theorem d_BH_night_41 : decode prog_1_method_19_code 41 = .ok (.getfield 117, 3) := by decide +kernel
theorem d_BH_night_44 : decode prog_1_method_19_code 44 = .ok (.iconst 4, 1) := by decide +kernel
theorem d_BH_night_45 : decode prog_1_method_19_code 45 = .ok (.iaload, 1) := by decide +kernel
theorem d_BH_night_46 : decode prog_1_method_19_code 46 = .ok (.invokevirtual 216, 3) := by decide +kernel
theorem d_BH_night_49 : decode prog_1_method_19_code 49 = .ok (.iconst 0, 1) := by decide +kernel
theorem d_BH_night_50 : decode prog_1_method_19_code 50 = .ok (.istore_n 2, 1) := by decide +kernel
theorem d_BH_night_51 : decode prog_1_method_19_code 51 = .ok (.iload_n 2, 1) := by decide +kernel
theorem d_BH_night_52 : decode prog_1_method_19_code 52 = .ok (.aload_n 0, 1) := by decide +kernel
theorem d_BH_night_53 : decode prog_1_method_19_code 53 = .ok (.getfield 54, 3) := by decide +kernel
theorem d_BH_night_56 : decode prog_1_method_19_code 56 = .ok (.getfield 105, 3) := by decide +kernel
theorem d_BH_night_59 : decode prog_1_method_19_code 59 = .ok (.if_icmp .ge 33, 3) := by decide +kernel
theorem d_BH_night_62 : decode prog_1_method_19_code 62 = .ok (.aload_n 0, 1) := by decide +kernel
theorem d_BH_night_63 : decode prog_1_method_19_code 63 = .ok (.getfield 40, 3) := by decide +kernel
theorem d_BH_night_66 : decode prog_1_method_19_code 66 = .ok (.aload_n 0, 1) := by decide +kernel
theorem d_BH_night_67 : decode prog_1_method_19_code 67 = .ok (.getfield 54, 3) := by decide +kernel
theorem d_BH_night_70 : decode prog_1_method_19_code 70 = .ok (.iload_n 2, 1) := by decide +kernel
theorem d_BH_night_71 : decode prog_1_method_19_code 71 = .ok (.aload_n 0, 1) := by decide +kernel
theorem d_BH_night_72 : decode prog_1_method_19_code 72 = .ok (.getfield 26, 3) := by decide +kernel
theorem d_BH_night_75 : decode prog_1_method_19_code 75 = .ok (.getfield 114, 3) := by decide +kernel
theorem d_BH_night_78 : decode prog_1_method_19_code 78 = .ok (.invokevirtual 163, 3) := by decide +kernel
theorem d_BH_night_81 : decode prog_1_method_19_code 81 = .ok (.aload_n 0, 1) := by decide +kernel
theorem d_BH_night_82 : decode prog_1_method_19_code 82 = .ok (.iload_n 2, 1) := by decide +kernel
theorem d_BH_night_83 : decode prog_1_method_19_code 83 = .ok (.invokevirtual 219, 3) := by decide +kernel
theorem d_BH_night_86 : decode prog_1_method_19_code 86 = .ok (.iinc 2 1, 3) := by decide +kernel
theorem d_BH_night_89 : decode prog_1_method_19_code 89 = .ok (.goto (-38), 3) := by decide +kernel
theorem d_BH_night_92 : decode prog_1_method_19_code 92 = .ok (.aload_n 0, 1) := by decide +kernel
theorem d_BH_night_93 : decode prog_1_method_19_code 93 = .ok (.getfield 26, 3) := by decide +kernel
theorem d_BH_night_96 : decode prog_1_method_19_code 96 = .ok (.getfield 123, 3) := by decide +kernel
theorem d_BH_night_99 : decode prog_1_method_19_code 99 = .ok (.iload_n 1, 1) := by decide +kernel
theorem d_BH_night_100 : decode prog_1_method_19_code 100 = .ok (.isub, 1) := by decide +kernel
theorem d_BH_night_101 : decode prog_1_method_19_code 101 = .ok (.ireturn, 1) := by decide +kernel
theorem d_Book_isInForce_0 : decode prog_2_method_5_code 0 = .ok (.aload_n 0, 1) := by decide +kernel
theorem d_Book_isInForce_1 : decode prog_2_method_5_code 1 = .ok (.getfield 51, 3) := by decide +kernel
theorem d_Book_isInForce_4 : decode prog_2_method_5_code 4 = .ok (.iload_n 1, 1) := by decide +kernel
theorem d_Book_isInForce_5 : decode prog_2_method_5_code 5 = .ok (.ishr, 1) := by decide +kernel
theorem d_Book_isInForce_6 : decode prog_2_method_5_code 6 = .ok (.iconst 1, 1) := by decide +kernel
theorem d_Book_isInForce_7 : decode prog_2_method_5_code 7 = .ok (.iand, 1) := by decide +kernel
theorem d_Book_isInForce_8 : decode prog_2_method_5_code 8 = .ok (.iconst 1, 1) := by decide +kernel
theorem d_Book_isInForce_9 : decode prog_2_method_5_code 9 = .ok (.if_icmp .ne 7, 3) := by decide +kernel
theorem d_Book_isInForce_12 : decode prog_2_method_5_code 12 = .ok (.iconst 1, 1) := by decide +kernel
theorem d_Book_isInForce_13 : decode prog_2_method_5_code 13 = .ok (.goto 4, 3) := by decide +kernel
theorem d_Book_isInForce_16 : decode prog_2_method_5_code 16 = .ok (.iconst 0, 1) := by decide +kernel
theorem d_Book_isInForce_17 : decode prog_2_method_5_code 17 = .ok (.ireturn, 1) := by decide +kernel
theorem d_Book_turnRule_0 : decode prog_2_method_6_code 0 = .ok (.aload_n 0, 1) := by decide +kernel
theorem d_Book_turnRule_1 : decode prog_2_method_6_code 1 = .ok (.iconst 3, 1) := by decide +kernel
theorem d_Book_turnRule_2 : decode prog_2_method_6_code 2 = .ok (.aload_n 0, 1) := by decide +kernel
theorem d_Book_turnRule_3 : decode prog_2_method_6_code 3 = .ok (.getfield 51, 3) := by decide +kernel
theorem d_Book_turnRule_6 : decode prog_2_method_6_code 6 = .ok (.invokevirtual 63, 3) := by decide +kernel
theorem d_Book_turnRule_9 : decode prog_2_method_6_code 9 = .ok (.aload_n 0, 1) := by decide +kernel
theorem d_Book_turnRule_10 : decode prog_2_method_6_code 10 = .ok (.dup, 1) := by decide +kernel
theorem d_Book_turnRule_11 : decode prog_2_method_6_code 11 = .ok (.getfield 51, 3) := by decide +kernel
theorem d_Book_turnRule_14 : decode prog_2_method_6_code 14 = .ok (.iconst 1, 1) := by decide +kernel
theorem d_Book_turnRule_15 : decode prog_2_method_6_code 15 = .ok (.iload_n 1, 1) := by decide +kernel
theorem d_Book_turnRule_16 : decode prog_2_method_6_code 16 = .ok (.ishl, 1) := by decide +kernel
theorem d_Book_turnRule_17 : decode prog_2_method_6_code 17 = .ok (.ixor, 1) := by decide +kernel
theorem d_Book_turnRule_18 : decode prog_2_method_6_code 18 = .ok (.putfield 51, 3) := by decide +kernel
theorem d_Book_turnRule_21 : decode prog_2_method_6_code 21 = .ok (.return_, 1) := by decide +kernel
theorem d_BH_rule_0 : decode prog_1_method_20_code 0 = .ok (.iload_n 1, 1) := by decide +kernel
theorem d_BH_rule_1 : decode prog_1_method_20_code 1 = .ok (.ifCond .lt 26, 3) := by decide +kernel
theorem d_BH_rule_4 : decode prog_1_method_20_code 4 = .ok (.iload_n 1, 1) := by decide +kernel
theorem d_BH_rule_5 : decode prog_1_method_20_code 5 = .ok (.aload_n 0, 1) := by decide +kernel
theorem d_BH_rule_6 : decode prog_1_method_20_code 6 = .ok (.getfield 54, 3) := by decide +kernel
theorem d_BH_rule_9 : decode prog_1_method_20_code 9 = .ok (.getfield 108, 3) := by decide +kernel
theorem d_BH_rule_12 : decode prog_1_method_20_code 12 = .ok (.if_icmp .ge 15, 3) := by decide +kernel
theorem d_BH_rule_15 : decode prog_1_method_20_code 15 = .ok (.aload_n 0, 1) := by decide +kernel
theorem d_BH_rule_16 : decode prog_1_method_20_code 16 = .ok (.getfield 26, 3) := by decide +kernel
theorem d_BH_rule_19 : decode prog_1_method_20_code 19 = .ok (.iload_n 1, 1) := by decide +kernel
theorem d_BH_rule_20 : decode prog_1_method_20_code 20 = .ok (.invokevirtual 222, 3) := by decide +kernel
theorem d_BH_rule_23 : decode prog_1_method_20_code 23 = .ok (.iload_n 2, 1) := by decide +kernel
theorem d_BH_rule_24 : decode prog_1_method_20_code 24 = .ok (.if_icmp .ne 15, 3) := by decide +kernel
theorem d_BH_rule_27 : decode prog_1_method_20_code 27 = .ok (.aload_n 0, 1) := by decide +kernel
theorem d_BH_rule_28 : decode prog_1_method_20_code 28 = .ok (.getfield 65, 3) := by decide +kernel
theorem d_BH_rule_31 : decode prog_1_method_20_code 31 = .ok (.iconst 3, 1) := by decide +kernel
theorem d_BH_rule_32 : decode prog_1_method_20_code 32 = .ok (.dup2, 1) := by decide +kernel
theorem d_BH_rule_33 : decode prog_1_method_20_code 33 = .ok (.iaload, 1) := by decide +kernel
theorem d_BH_rule_34 : decode prog_1_method_20_code 34 = .ok (.iconst 1, 1) := by decide +kernel
theorem d_BH_rule_35 : decode prog_1_method_20_code 35 = .ok (.iadd, 1) := by decide +kernel
theorem d_BH_rule_36 : decode prog_1_method_20_code 36 = .ok (.iastore, 1) := by decide +kernel
theorem d_BH_rule_37 : decode prog_1_method_20_code 37 = .ok (.iconst 0, 1) := by decide +kernel
theorem d_BH_rule_38 : decode prog_1_method_20_code 38 = .ok (.ireturn, 1) := by decide +kernel
theorem d_BH_rule_39 : decode prog_1_method_20_code 39 = .ok (.aload_n 0, 1) := by decide +kernel
theorem d_BH_rule_40 : decode prog_1_method_20_code 40 = .ok (.getfield 26, 3) := by decide +kernel
theorem d_BH_rule_43 : decode prog_1_method_20_code 43 = .ok (.iload_n 1, 1) := by decide +kernel
theorem d_BH_rule_44 : decode prog_1_method_20_code 44 = .ok (.invokevirtual 225, 3) := by decide +kernel
theorem d_BH_rule_47 : decode prog_1_method_20_code 47 = .ok (.iconst 1, 1) := by decide +kernel
theorem d_BH_rule_48 : decode prog_1_method_20_code 48 = .ok (.ireturn, 1) := by decide +kernel
theorem d_Book_change_0 : decode prog_2_method_4_code 0 = .ok (.aload_n 0, 1) := by decide +kernel
theorem d_Book_change_1 : decode prog_2_method_4_code 1 = .ok (.getfield 11, 3) := by decide +kernel
theorem d_Book_change_4 : decode prog_2_method_4_code 4 = .ok (.iload_n 1, 1) := by decide +kernel
theorem d_Book_change_5 : decode prog_2_method_4_code 5 = .ok (.iaload, 1) := by decide +kernel
theorem d_Book_change_6 : decode prog_2_method_4_code 6 = .ok (.istore_n 3, 1) := by decide +kernel
theorem d_Book_change_7 : decode prog_2_method_4_code 7 = .ok (.aload_n 0, 1) := by decide +kernel
theorem d_Book_change_8 : decode prog_2_method_4_code 8 = .ok (.iload_n 1, 1) := by decide +kernel
theorem d_Book_change_9 : decode prog_2_method_4_code 9 = .ok (.iload_n 3, 1) := by decide +kernel
theorem d_Book_change_10 : decode prog_2_method_4_code 10 = .ok (.invokevirtual 63, 3) := by decide +kernel
theorem d_Book_change_13 : decode prog_2_method_4_code 13 = .ok (.aload_n 0, 1) := by decide +kernel
theorem d_Book_change_14 : decode prog_2_method_4_code 14 = .ok (.getfield 11, 3) := by decide +kernel
theorem d_Book_change_17 : decode prog_2_method_4_code 17 = .ok (.iload_n 1, 1) := by decide +kernel
theorem d_Book_change_18 : decode prog_2_method_4_code 18 = .ok (.iload_n 2, 1) := by decide +kernel
theorem d_Book_change_19 : decode prog_2_method_4_code 19 = .ok (.iastore, 1) := by decide +kernel
theorem d_Book_change_20 : decode prog_2_method_4_code 20 = .ok (.iload_n 3, 1) := by decide +kernel
theorem d_Book_change_21 : decode prog_2_method_4_code 21 = .ok (.ireturn, 1) := by decide +kernel
theorem d_BH_set_0 : decode prog_1_method_21_code 0 = .ok (.iload_n 1, 1) := by decide +kernel
theorem d_BH_set_1 : decode prog_1_method_21_code 1 = .ok (.ifCond .lt 26, 3) := by decide +kernel
theorem d_BH_set_4 : decode prog_1_method_21_code 4 = .ok (.iload_n 1, 1) := by decide +kernel
theorem d_BH_set_5 : decode prog_1_method_21_code 5 = .ok (.iconst 3, 1) := by decide +kernel
theorem d_BH_set_6 : decode prog_1_method_21_code 6 = .ok (.if_icmp .ge 21, 3) := by decide +kernel
theorem d_BH_set_9 : decode prog_1_method_21_code 9 = .ok (.iload_n 2, 1) := by decide +kernel
theorem d_BH_set_10 : decode prog_1_method_21_code 10 = .ok (.getstatic 228, 3) := by decide +kernel
theorem d_BH_set_13 : decode prog_1_method_21_code 13 = .ok (.iload_n 1, 1) := by decide +kernel
theorem d_BH_set_14 : decode prog_1_method_21_code 14 = .ok (.iaload, 1) := by decide +kernel
theorem d_BH_set_15 : decode prog_1_method_21_code 15 = .ok (.if_icmp .lt 12, 3) := by decide +kernel
theorem d_BH_set_18 : decode prog_1_method_21_code 18 = .ok (.iload_n 2, 1) := by decide +kernel
theorem d_BH_set_19 : decode prog_1_method_21_code 19 = .ok (.getstatic 231, 3) := by decide +kernel
theorem d_BH_set_22 : decode prog_1_method_21_code 22 = .ok (.iload_n 1, 1) := by decide +kernel
theorem d_BH_set_23 : decode prog_1_method_21_code 23 = .ok (.iaload, 1) := by decide +kernel
theorem d_BH_set_24 : decode prog_1_method_21_code 24 = .ok (.if_icmp .le 15, 3) := by decide +kernel
theorem d_BH_set_27 : decode prog_1_method_21_code 27 = .ok (.aload_n 0, 1) := by decide +kernel
theorem d_BH_set_28 : decode prog_1_method_21_code 28 = .ok (.getfield 65, 3) := by decide +kernel
theorem d_BH_set_31 : decode prog_1_method_21_code 31 = .ok (.iconst 3, 1) := by decide +kernel
theorem d_BH_set_32 : decode prog_1_method_21_code 32 = .ok (.dup2, 1) := by decide +kernel
theorem d_BH_set_33 : decode prog_1_method_21_code 33 = .ok (.iaload, 1) := by decide +kernel
theorem d_BH_set_34 : decode prog_1_method_21_code 34 = .ok (.iconst 1, 1) := by decide +kernel
theorem d_BH_set_35 : decode prog_1_method_21_code 35 = .ok (.iadd, 1) := by decide +kernel
theorem d_BH_set_36 : decode prog_1_method_21_code 36 = .ok (.iastore, 1) := by decide +kernel
theorem d_BH_set_37 : decode prog_1_method_21_code 37 = .ok (.iconst (-1), 1) := by decide +kernel
theorem d_BH_set_38 : decode prog_1_method_21_code 38 = .ok (.ireturn, 1) := by decide +kernel
theorem d_BH_set_39 : decode prog_1_method_21_code 39 = .ok (.aload_n 0, 1) := by decide +kernel
theorem d_BH_set_40 : decode prog_1_method_21_code 40 = .ok (.getfield 26, 3) := by decide +kernel
theorem d_BH_set_43 : decode prog_1_method_21_code 43 = .ok (.iload_n 1, 1) := by decide +kernel
theorem d_BH_set_44 : decode prog_1_method_21_code 44 = .ok (.iload_n 2, 1) := by decide +kernel
theorem d_BH_set_45 : decode prog_1_method_21_code 45 = .ok (.invokevirtual 234, 3) := by decide +kernel
theorem d_BH_set_48 : decode prog_1_method_21_code 48 = .ok (.ireturn, 1) := by decide +kernel
theorem d_Book_takeBack_0 : decode prog_2_method_9_code 0 = .ok (.aload_n 0, 1) := by decide +kernel
theorem d_Book_takeBack_1 : decode prog_2_method_9_code 1 = .ok (.getfield 57, 3) := by decide +kernel
theorem d_Book_takeBack_4 : decode prog_2_method_9_code 4 = .ok (.ifCond .ne 4, 3) := by decide +kernel
theorem d_Book_takeBack_7 : decode prog_2_method_9_code 7 = .ok (.return_, 1) := by decide +kernel
theorem d_Book_takeBack_8 : decode prog_2_method_9_code 8 = .ok (.aload_n 0, 1) := by decide +kernel
theorem d_Book_takeBack_9 : decode prog_2_method_9_code 9 = .ok (.dup, 1) := by decide +kernel
theorem d_Book_takeBack_10 : decode prog_2_method_9_code 10 = .ok (.getfield 57, 3) := by decide +kernel
theorem d_Book_takeBack_13 : decode prog_2_method_9_code 13 = .ok (.iconst 1, 1) := by decide +kernel
theorem d_Book_takeBack_14 : decode prog_2_method_9_code 14 = .ok (.isub, 1) := by decide +kernel
theorem d_Book_takeBack_15 : decode prog_2_method_9_code 15 = .ok (.putfield 57, 3) := by decide +kernel
theorem d_Book_takeBack_18 : decode prog_2_method_9_code 18 = .ok (.aload_n 0, 1) := by decide +kernel
theorem d_Book_takeBack_19 : decode prog_2_method_9_code 19 = .ok (.getfield 19, 3) := by decide +kernel
theorem d_Book_takeBack_22 : decode prog_2_method_9_code 22 = .ok (.aload_n 0, 1) := by decide +kernel
theorem d_Book_takeBack_23 : decode prog_2_method_9_code 23 = .ok (.getfield 57, 3) := by decide +kernel
theorem d_Book_takeBack_26 : decode prog_2_method_9_code 26 = .ok (.iaload, 1) := by decide +kernel
theorem d_Book_takeBack_27 : decode prog_2_method_9_code 27 = .ok (.istore_n 1, 1) := by decide +kernel
theorem d_Book_takeBack_28 : decode prog_2_method_9_code 28 = .ok (.iload_n 1, 1) := by decide +kernel
theorem d_Book_takeBack_29 : decode prog_2_method_9_code 29 = .ok (.iconst 3, 1) := by decide +kernel
theorem d_Book_takeBack_30 : decode prog_2_method_9_code 30 = .ok (.if_icmp .ge 21, 3) := by decide +kernel
theorem d_Book_takeBack_33 : decode prog_2_method_9_code 33 = .ok (.aload_n 0, 1) := by decide +kernel
theorem d_Book_takeBack_34 : decode prog_2_method_9_code 34 = .ok (.getfield 11, 3) := by decide +kernel
theorem d_Book_takeBack_37 : decode prog_2_method_9_code 37 = .ok (.iload_n 1, 1) := by decide +kernel
theorem d_Book_takeBack_38 : decode prog_2_method_9_code 38 = .ok (.aload_n 0, 1) := by decide +kernel
theorem d_Book_takeBack_39 : decode prog_2_method_9_code 39 = .ok (.getfield 22, 3) := by decide +kernel
theorem d_Book_takeBack_42 : decode prog_2_method_9_code 42 = .ok (.aload_n 0, 1) := by decide +kernel
theorem d_Book_takeBack_43 : decode prog_2_method_9_code 43 = .ok (.getfield 57, 3) := by decide +kernel
theorem d_Book_takeBack_46 : decode prog_2_method_9_code 46 = .ok (.iaload, 1) := by decide +kernel
theorem d_Book_takeBack_47 : decode prog_2_method_9_code 47 = .ok (.iastore, 1) := by decide +kernel
theorem d_Book_takeBack_48 : decode prog_2_method_9_code 48 = .ok (.goto 65, 3) := by decide +kernel
theorem d_Book_takeBack_51 : decode prog_2_method_9_code 51 = .ok (.iload_n 1, 1) := by decide +kernel
theorem d_Book_takeBack_52 : decode prog_2_method_9_code 52 = .ok (.iconst 3, 1) := by decide +kernel
theorem d_Book_takeBack_53 : decode prog_2_method_9_code 53 = .ok (.if_icmp .ne 19, 3) := by decide +kernel
theorem d_Book_takeBack_56 : decode prog_2_method_9_code 56 = .ok (.aload_n 0, 1) := by decide +kernel
theorem d_Book_takeBack_57 : decode prog_2_method_9_code 57 = .ok (.aload_n 0, 1) := by decide +kernel
theorem d_Book_takeBack_58 : decode prog_2_method_9_code 58 = .ok (.getfield 22, 3) := by decide +kernel
theorem d_Book_takeBack_61 : decode prog_2_method_9_code 61 = .ok (.aload_n 0, 1) := by decide +kernel
theorem d_Book_takeBack_62 : decode prog_2_method_9_code 62 = .ok (.getfield 57, 3) := by decide +kernel
theorem d_Book_takeBack_65 : decode prog_2_method_9_code 65 = .ok (.iaload, 1) := by decide +kernel
theorem d_Book_takeBack_66 : decode prog_2_method_9_code 66 = .ok (.putfield 51, 3) := by decide +kernel
theorem d_Book_takeBack_69 : decode prog_2_method_9_code 69 = .ok (.goto 44, 3) := by decide +kernel
theorem d_Book_takeBack_72 : decode prog_2_method_9_code 72 = .ok (.aload_n 0, 1) := by decide +kernel
theorem d_Book_takeBack_73 : decode prog_2_method_9_code 73 = .ok (.dup, 1) := by decide +kernel
theorem d_Book_takeBack_74 : decode prog_2_method_9_code 74 = .ok (.getfield 40, 3) := by decide +kernel
theorem d_Book_takeBack_77 : decode prog_2_method_9_code 77 = .ok (.iconst 1, 1) := by decide +kernel
theorem d_Book_takeBack_78 : decode prog_2_method_9_code 78 = .ok (.isub, 1) := by decide +kernel
theorem d_Book_takeBack_79 : decode prog_2_method_9_code 79 = .ok (.putfield 40, 3) := by decide +kernel
theorem d_Book_takeBack_82 : decode prog_2_method_9_code 82 = .ok (.aload_n 0, 1) := by decide +kernel
theorem d_Book_takeBack_83 : decode prog_2_method_9_code 83 = .ok (.aload_n 0, 1) := by decide +kernel
theorem d_Book_takeBack_84 : decode prog_2_method_9_code 84 = .ok (.getfield 22, 3) := by decide +kernel
theorem d_Book_takeBack_87 : decode prog_2_method_9_code 87 = .ok (.aload_n 0, 1) := by decide +kernel
theorem d_Book_takeBack_88 : decode prog_2_method_9_code 88 = .ok (.getfield 57, 3) := by decide +kernel
theorem d_Book_takeBack_91 : decode prog_2_method_9_code 91 = .ok (.iaload, 1) := by decide +kernel
theorem d_Book_takeBack_92 : decode prog_2_method_9_code 92 = .ok (.putfield 43, 3) := by decide +kernel
theorem d_Book_takeBack_95 : decode prog_2_method_9_code 95 = .ok (.aload_n 0, 1) := by decide +kernel
theorem d_Book_takeBack_96 : decode prog_2_method_9_code 96 = .ok (.dup, 1) := by decide +kernel
theorem d_Book_takeBack_97 : decode prog_2_method_9_code 97 = .ok (.getfield 60, 3) := by decide +kernel
theorem d_Book_takeBack_100 : decode prog_2_method_9_code 100 = .ok (.aload_n 0, 1) := by decide +kernel
theorem d_Book_takeBack_101 : decode prog_2_method_9_code 101 = .ok (.getfield 25, 3) := by decide +kernel
theorem d_Book_takeBack_104 : decode prog_2_method_9_code 104 = .ok (.aload_n 0, 1) := by decide +kernel
theorem d_Book_takeBack_105 : decode prog_2_method_9_code 105 = .ok (.getfield 57, 3) := by decide +kernel
theorem d_Book_takeBack_108 : decode prog_2_method_9_code 108 = .ok (.iaload, 1) := by decide +kernel
theorem d_Book_takeBack_109 : decode prog_2_method_9_code 109 = .ok (.isub, 1) := by decide +kernel
theorem d_Book_takeBack_110 : decode prog_2_method_9_code 110 = .ok (.putfield 60, 3) := by decide +kernel
theorem d_Book_takeBack_113 : decode prog_2_method_9_code 113 = .ok (.return_, 1) := by decide +kernel
theorem d_BH_undo_0 : decode prog_1_method_22_code 0 = .ok (.aload_n 0, 1) := by decide +kernel
theorem d_BH_undo_1 : decode prog_1_method_22_code 1 = .ok (.getfield 26, 3) := by decide +kernel
theorem d_BH_undo_4 : decode prog_1_method_22_code 4 = .ok (.getfield 130, 3) := by decide +kernel
theorem d_BH_undo_7 : decode prog_1_method_22_code 7 = .ok (.ifCond .ne 15, 3) := by decide +kernel
theorem d_BH_undo_10 : decode prog_1_method_22_code 10 = .ok (.aload_n 0, 1) := by decide +kernel
theorem d_BH_undo_11 : decode prog_1_method_22_code 11 = .ok (.getfield 65, 3) := by decide +kernel
theorem d_BH_undo_14 : decode prog_1_method_22_code 14 = .ok (.iconst 4, 1) := by decide +kernel
theorem d_BH_undo_15 : decode prog_1_method_22_code 15 = .ok (.dup2, 1) := by decide +kernel
theorem d_BH_undo_16 : decode prog_1_method_22_code 16 = .ok (.iaload, 1) := by decide +kernel
theorem d_BH_undo_17 : decode prog_1_method_22_code 17 = .ok (.iconst 1, 1) := by decide +kernel
theorem d_BH_undo_18 : decode prog_1_method_22_code 18 = .ok (.iadd, 1) := by decide +kernel
theorem d_BH_undo_19 : decode prog_1_method_22_code 19 = .ok (.iastore, 1) := by decide +kernel
theorem d_BH_undo_20 : decode prog_1_method_22_code 20 = .ok (.iconst 0, 1) := by decide +kernel
theorem d_BH_undo_21 : decode prog_1_method_22_code 21 = .ok (.ireturn, 1) := by decide +kernel
theorem d_BH_undo_22 : decode prog_1_method_22_code 22 = .ok (.aload_n 0, 1) := by decide +kernel
theorem d_BH_undo_23 : decode prog_1_method_22_code 23 = .ok (.getfield 26, 3) := by decide +kernel
theorem d_BH_undo_26 : decode prog_1_method_22_code 26 = .ok (.invokevirtual 237, 3) := by decide +kernel
theorem d_BH_undo_29 : decode prog_1_method_22_code 29 = .ok (.iconst 1, 1) := by decide +kernel
theorem d_BH_undo_30 : decode prog_1_method_22_code 30 = .ok (.ireturn, 1) := by decide +kernel
theorem d_BH_seed_0 : decode prog_1_method_23_code 0 = .ok (.iload_n 1, 1) := by decide +kernel
theorem d_BH_seed_1 : decode prog_1_method_23_code 1 = .ok (.ifCond .ge 15, 3) := by decide +kernel
theorem d_BH_seed_4 : decode prog_1_method_23_code 4 = .ok (.aload_n 0, 1) := by decide +kernel
theorem d_BH_seed_5 : decode prog_1_method_23_code 5 = .ok (.getfield 65, 3) := by decide +kernel
theorem d_BH_seed_8 : decode prog_1_method_23_code 8 = .ok (.iconst 5, 1) := by decide +kernel
theorem d_BH_seed_9 : decode prog_1_method_23_code 9 = .ok (.dup2, 1) := by decide +kernel
theorem d_BH_seed_10 : decode prog_1_method_23_code 10 = .ok (.iaload, 1) := by decide +kernel
theorem d_BH_seed_11 : decode prog_1_method_23_code 11 = .ok (.iconst 1, 1) := by decide +kernel
theorem d_BH_seed_12 : decode prog_1_method_23_code 12 = .ok (.iadd, 1) := by decide +kernel
theorem d_BH_seed_13 : decode prog_1_method_23_code 13 = .ok (.iastore, 1) := by decide +kernel
theorem d_BH_seed_14 : decode prog_1_method_23_code 14 = .ok (.iconst 0, 1) := by decide +kernel
theorem d_BH_seed_15 : decode prog_1_method_23_code 15 = .ok (.ireturn, 1) := by decide +kernel
theorem d_BH_seed_16 : decode prog_1_method_23_code 16 = .ok (.aload_n 0, 1) := by decide +kernel
theorem d_BH_seed_17 : decode prog_1_method_23_code 17 = .ok (.getfield 26, 3) := by decide +kernel
theorem d_BH_seed_20 : decode prog_1_method_23_code 20 = .ok (.iload_n 1, 1) := by decide +kernel
theorem d_BH_seed_21 : decode prog_1_method_23_code 21 = .ok (.putfield 240, 3) := by decide +kernel
theorem d_BH_seed_24 : decode prog_1_method_23_code 24 = .ok (.iconst 1, 1) := by decide +kernel
theorem d_BH_seed_25 : decode prog_1_method_23_code 25 = .ok (.ireturn, 1) := by decide +kernel
theorem d_Book_told_0 : decode prog_2_method_11_code 0 = .ok (.aload_n 0, 1) := by decide +kernel
theorem d_Book_told_1 : decode prog_2_method_11_code 1 = .ok (.getfield 60, 3) := by decide +kernel
theorem d_Book_told_4 : decode prog_2_method_11_code 4 = .ok (.aload_n 0, 1) := by decide +kernel
theorem d_Book_told_5 : decode prog_2_method_11_code 5 = .ok (.invokevirtual 79, 3) := by decide +kernel
theorem d_Book_told_8 : decode prog_2_method_11_code 8 = .ok (.isub, 1) := by decide +kernel
theorem d_Book_told_9 : decode prog_2_method_11_code 9 = .ok (.iload_n 1, 1) := by decide +kernel
theorem d_Book_told_10 : decode prog_2_method_11_code 10 = .ok (.iadd, 1) := by decide +kernel
theorem d_Book_told_11 : decode prog_2_method_11_code 11 = .ok (.istore_n 3, 1) := by decide +kernel
theorem d_Book_told_12 : decode prog_2_method_11_code 12 = .ok (.iload_n 3, 1) := by decide +kernel
theorem d_Book_told_13 : decode prog_2_method_11_code 13 = .ok (.ifCond .ge 5, 3) := by decide +kernel
theorem d_Book_told_16 : decode prog_2_method_11_code 16 = .ok (.iconst (-1), 1) := by decide +kernel
theorem d_Book_told_17 : decode prog_2_method_11_code 17 = .ok (.ireturn, 1) := by decide +kernel
theorem d_Book_told_18 : decode prog_2_method_11_code 18 = .ok (.aload_n 0, 1) := by decide +kernel
theorem d_Book_told_19 : decode prog_2_method_11_code 19 = .ok (.getfield 28, 3) := by decide +kernel
theorem d_Book_told_22 : decode prog_2_method_11_code 22 = .ok (.iload_n 3, 1) := by decide +kernel
theorem d_Book_told_23 : decode prog_2_method_11_code 23 = .ok (.sipush 700, 3) := by decide +kernel
theorem d_Book_told_26 : decode prog_2_method_11_code 26 = .ok (.irem, 1) := by decide +kernel
theorem d_Book_told_27 : decode prog_2_method_11_code 27 = .ok (.iaload, 1) := by decide +kernel
theorem d_Book_told_28 : decode prog_2_method_11_code 28 = .ok (.istore 4, 2) := by decide +kernel
theorem d_Book_told_30 : decode prog_2_method_11_code 30 = .ok (.iload_n 2, 1) := by decide +kernel
theorem d_Book_told_31 : decode prog_2_method_11_code 31 = .ok (.tableswitch 71 0 4 #[33, 39, 48, 57, 65], 33) := by decide +kernel
theorem d_Book_told_64 : decode prog_2_method_11_code 64 = .ok (.iload 4, 2) := by decide +kernel
theorem d_Book_told_66 : decode prog_2_method_11_code 66 = .ok (.bipush 14, 2) := by decide +kernel
theorem d_Book_told_68 : decode prog_2_method_11_code 68 = .ok (.ishr, 1) := by decide +kernel
theorem d_Book_told_69 : decode prog_2_method_11_code 69 = .ok (.ireturn, 1) := by decide +kernel
theorem d_Book_told_70 : decode prog_2_method_11_code 70 = .ok (.iload 4, 2) := by decide +kernel
theorem d_Book_told_72 : decode prog_2_method_11_code 72 = .ok (.bipush 11, 2) := by decide +kernel
theorem d_Book_told_74 : decode prog_2_method_11_code 74 = .ok (.ishr, 1) := by decide +kernel
theorem d_Book_told_75 : decode prog_2_method_11_code 75 = .ok (.bipush 7, 2) := by decide +kernel
theorem d_Book_told_77 : decode prog_2_method_11_code 77 = .ok (.iand, 1) := by decide +kernel
theorem d_Book_told_78 : decode prog_2_method_11_code 78 = .ok (.ireturn, 1) := by decide +kernel
theorem d_Book_told_79 : decode prog_2_method_11_code 79 = .ok (.iload 4, 2) := by decide +kernel
theorem d_Book_told_81 : decode prog_2_method_11_code 81 = .ok (.bipush 8, 2) := by decide +kernel
theorem d_Book_told_83 : decode prog_2_method_11_code 83 = .ok (.ishr, 1) := by decide +kernel
theorem d_Book_told_84 : decode prog_2_method_11_code 84 = .ok (.bipush 7, 2) := by decide +kernel
theorem d_Book_told_86 : decode prog_2_method_11_code 86 = .ok (.iand, 1) := by decide +kernel
theorem d_Book_told_87 : decode prog_2_method_11_code 87 = .ok (.ireturn, 1) := by decide +kernel
theorem d_Book_told_88 : decode prog_2_method_11_code 88 = .ok (.iload 4, 2) := by decide +kernel
theorem d_Book_told_90 : decode prog_2_method_11_code 90 = .ok (.bipush 7, 2) := by decide +kernel
theorem d_Book_told_92 : decode prog_2_method_11_code 92 = .ok (.ishr, 1) := by decide +kernel
theorem d_Book_told_93 : decode prog_2_method_11_code 93 = .ok (.iconst 1, 1) := by decide +kernel
theorem d_Book_told_94 : decode prog_2_method_11_code 94 = .ok (.iand, 1) := by decide +kernel
theorem d_Book_told_95 : decode prog_2_method_11_code 95 = .ok (.ireturn, 1) := by decide +kernel
theorem d_Book_told_96 : decode prog_2_method_11_code 96 = .ok (.iload 4, 2) := by decide +kernel
theorem d_Book_told_98 : decode prog_2_method_11_code 98 = .ok (.bipush 127, 2) := by decide +kernel
theorem d_Book_told_100 : decode prog_2_method_11_code 100 = .ok (.iand, 1) := by decide +kernel
theorem d_Book_told_101 : decode prog_2_method_11_code 101 = .ok (.ireturn, 1) := by decide +kernel
theorem d_Book_told_102 : decode prog_2_method_11_code 102 = .ok (.iconst (-1), 1) := by decide +kernel
theorem d_Book_told_103 : decode prog_2_method_11_code 103 = .ok (.ireturn, 1) := by decide +kernel
theorem d_BH_kept_0 : decode prog_1_method_24_code 0 = .ok (.iload_n 1, 1) := by decide +kernel
theorem d_BH_kept_1 : decode prog_1_method_24_code 1 = .ok (.ifCond .lt 23, 3) := by decide +kernel
theorem d_BH_kept_4 : decode prog_1_method_24_code 4 = .ok (.iload_n 1, 1) := by decide +kernel
theorem d_BH_kept_5 : decode prog_1_method_24_code 5 = .ok (.aload_n 0, 1) := by decide +kernel
theorem d_BH_kept_6 : decode prog_1_method_24_code 6 = .ok (.getfield 26, 3) := by decide +kernel
theorem d_BH_kept_9 : decode prog_1_method_24_code 9 = .ok (.invokevirtual 126, 3) := by decide +kernel
theorem d_BH_kept_12 : decode prog_1_method_24_code 12 = .ok (.if_icmp .ge 12, 3) := by decide +kernel
theorem d_BH_kept_15 : decode prog_1_method_24_code 15 = .ok (.iload_n 2, 1) := by decide +kernel
theorem d_BH_kept_16 : decode prog_1_method_24_code 16 = .ok (.ifCond .lt 8, 3) := by decide +kernel
theorem d_BH_kept_19 : decode prog_1_method_24_code 19 = .ok (.iload_n 2, 1) := by decide +kernel
theorem d_BH_kept_20 : decode prog_1_method_24_code 20 = .ok (.iconst 4, 1) := by decide +kernel
theorem d_BH_kept_21 : decode prog_1_method_24_code 21 = .ok (.if_icmp .le 5, 3) := by decide +kernel
theorem d_BH_kept_24 : decode prog_1_method_24_code 24 = .ok (.iconst (-1), 1) := by decide +kernel
theorem d_BH_kept_25 : decode prog_1_method_24_code 25 = .ok (.ireturn, 1) := by decide +kernel
theorem d_BH_kept_26 : decode prog_1_method_24_code 26 = .ok (.aload_n 0, 1) := by decide +kernel
theorem d_BH_kept_27 : decode prog_1_method_24_code 27 = .ok (.getfield 26, 3) := by decide +kernel
theorem d_BH_kept_30 : decode prog_1_method_24_code 30 = .ok (.iload_n 1, 1) := by decide +kernel
theorem d_BH_kept_31 : decode prog_1_method_24_code 31 = .ok (.iload_n 2, 1) := by decide +kernel
theorem d_BH_kept_32 : decode prog_1_method_24_code 32 = .ok (.invokevirtual 243, 3) := by decide +kernel
theorem d_BH_kept_35 : decode prog_1_method_24_code 35 = .ok (.ireturn, 1) := by decide +kernel
theorem d_BH_canBeSeen_0 : decode prog_1_method_43_code 0 = .ok (.iload_n 1, 1) := by decide +kernel
theorem d_BH_canBeSeen_1 : decode prog_1_method_43_code 1 = .ok (.iconst 1, 1) := by decide +kernel
theorem d_BH_canBeSeen_2 : decode prog_1_method_43_code 2 = .ok (.if_icmp .lt 8, 3) := by decide +kernel
theorem d_BH_canBeSeen_5 : decode prog_1_method_43_code 5 = .ok (.iload_n 1, 1) := by decide +kernel
theorem d_BH_canBeSeen_6 : decode prog_1_method_43_code 6 = .ok (.iconst 4, 1) := by decide +kernel
theorem d_BH_canBeSeen_7 : decode prog_1_method_43_code 7 = .ok (.if_icmp .le 5, 3) := by decide +kernel
theorem d_BH_canBeSeen_10 : decode prog_1_method_43_code 10 = .ok (.iconst 0, 1) := by decide +kernel
theorem d_BH_canBeSeen_11 : decode prog_1_method_43_code 11 = .ok (.ireturn, 1) := by decide +kernel
theorem d_BH_canBeSeen_12 : decode prog_1_method_43_code 12 = .ok (.iconst 0, 1) := by decide +kernel
theorem d_BH_canBeSeen_13 : decode prog_1_method_43_code 13 = .ok (.istore_n 2, 1) := by decide +kernel
theorem d_BH_canBeSeen_14 : decode prog_1_method_43_code 14 = .ok (.iload_n 2, 1) := by decide +kernel
theorem d_BH_canBeSeen_15 : decode prog_1_method_43_code 15 = .ok (.iload_n 1, 1) := by decide +kernel
theorem d_BH_canBeSeen_16 : decode prog_1_method_43_code 16 = .ok (.if_icmp .ge 32, 3) := by decide +kernel
theorem d_BH_canBeSeen_19 : decode prog_1_method_43_code 19 = .ok (.aload_n 0, 1) := by decide +kernel
theorem d_BH_canBeSeen_20 : decode prog_1_method_43_code 20 = .ok (.getfield 10, 3) := by decide +kernel
theorem d_BH_canBeSeen_23 : decode prog_1_method_43_code 23 = .ok (.getfield 76, 3) := by decide +kernel
theorem d_BH_canBeSeen_26 : decode prog_1_method_43_code 26 = .ok (.iload_n 2, 1) := by decide +kernel
theorem d_BH_canBeSeen_27 : decode prog_1_method_43_code 27 = .ok (.iaload, 1) := by decide +kernel
theorem d_BH_canBeSeen_28 : decode prog_1_method_43_code 28 = .ok (.aload_n 0, 1) := by decide +kernel
theorem d_BH_canBeSeen_29 : decode prog_1_method_43_code 29 = .ok (.getfield 26, 3) := by decide +kernel
theorem d_BH_canBeSeen_32 : decode prog_1_method_43_code 32 = .ok (.getfield 114, 3) := by decide +kernel
theorem d_BH_canBeSeen_35 : decode prog_1_method_43_code 35 = .ok (.iconst 0, 1) := by decide +kernel
theorem d_BH_canBeSeen_36 : decode prog_1_method_43_code 36 = .ok (.iaload, 1) := by decide +kernel
theorem d_BH_canBeSeen_37 : decode prog_1_method_43_code 37 = .ok (.if_icmp .le 5, 3) := by decide +kernel
theorem d_BH_canBeSeen_40 : decode prog_1_method_43_code 40 = .ok (.iconst 0, 1) := by decide +kernel
theorem d_BH_canBeSeen_41 : decode prog_1_method_43_code 41 = .ok (.ireturn, 1) := by decide +kernel
theorem d_BH_canBeSeen_42 : decode prog_1_method_43_code 42 = .ok (.iinc 2 1, 3) := by decide +kernel
theorem d_BH_canBeSeen_45 : decode prog_1_method_43_code 45 = .ok (.goto (-31), 3) := by decide +kernel
theorem d_BH_canBeSeen_48 : decode prog_1_method_43_code 48 = .ok (.iconst 1, 1) := by decide +kernel
theorem d_BH_canBeSeen_49 : decode prog_1_method_43_code 49 = .ok (.ireturn, 1) := by decide +kernel
theorem d_BH_see_0 : decode prog_1_method_25_code 0 = .ok (.aload_n 0, 1) := by decide +kernel
theorem d_BH_see_1 : decode prog_1_method_25_code 1 = .ok (.getfield 10, 3) := by decide +kernel
theorem d_BH_see_4 : decode prog_1_method_25_code 4 = .ok (.getfield 68, 3) := by decide +kernel
theorem d_BH_see_7 : decode prog_1_method_25_code 7 = .ok (.istore_n 2, 1) := by decide +kernel
theorem d_BH_see_8 : decode prog_1_method_25_code 8 = .ok (.aload_n 0, 1) := by decide +kernel
theorem d_BH_see_9 : decode prog_1_method_25_code 9 = .ok (.getfield 10, 3) := by decide +kernel
theorem d_BH_see_12 : decode prog_1_method_25_code 12 = .ok (.iconst 0, 1) := by decide +kernel
theorem d_BH_see_13 : decode prog_1_method_25_code 13 = .ok (.putfield 68, 3) := by decide +kernel
theorem d_BH_see_16 : decode prog_1_method_25_code 16 = .ok (.aload_n 0, 1) := by decide +kernel
theorem d_BH_see_17 : decode prog_1_method_25_code 17 = .ok (.iload_n 1, 1) := by decide +kernel
theorem d_BH_see_18 : decode prog_1_method_25_code 18 = .ok (.invokevirtual 144, 3) := by decide +kernel
theorem d_BH_see_21 : decode prog_1_method_25_code 21 = .ok (.ifCond .eq 11, 3) := by decide +kernel
theorem d_BH_see_24 : decode prog_1_method_25_code 24 = .ok (.aload_n 0, 1) := by decide +kernel
theorem d_BH_see_25 : decode prog_1_method_25_code 25 = .ok (.iload_n 2, 1) := by decide +kernel
theorem d_BH_see_26 : decode prog_1_method_25_code 26 = .ok (.invokevirtual 246, 3) := by decide +kernel
theorem d_BH_see_29 : decode prog_1_method_25_code 29 = .ok (.ifCond .ne 15, 3) := by decide +kernel
theorem d_BH_see_32 : decode prog_1_method_25_code 32 = .ok (.aload_n 0, 1) := by decide +kernel
theorem d_BH_see_33 : decode prog_1_method_25_code 33 = .ok (.getfield 65, 3) := by decide +kernel
theorem d_BH_see_36 : decode prog_1_method_25_code 36 = .ok (.iconst 1, 1) := by decide +kernel
theorem d_BH_see_37 : decode prog_1_method_25_code 37 = .ok (.dup2, 1) := by decide +kernel
theorem d_BH_see_38 : decode prog_1_method_25_code 38 = .ok (.iaload, 1) := by decide +kernel
theorem d_BH_see_39 : decode prog_1_method_25_code 39 = .ok (.iconst 1, 1) := by decide +kernel
theorem d_BH_see_40 : decode prog_1_method_25_code 40 = .ok (.iadd, 1) := by decide +kernel
theorem d_BH_see_41 : decode prog_1_method_25_code 41 = .ok (.iastore, 1) := by decide +kernel
theorem d_BH_see_42 : decode prog_1_method_25_code 42 = .ok (.iconst 0, 1) := by decide +kernel
theorem d_BH_see_43 : decode prog_1_method_25_code 43 = .ok (.ireturn, 1) := by decide +kernel
theorem d_BH_see_44 : decode prog_1_method_25_code 44 = .ok (.iconst 0, 1) := by decide +kernel
theorem d_BH_see_45 : decode prog_1_method_25_code 45 = .ok (.istore_n 3, 1) := by decide +kernel
theorem d_BH_see_46 : decode prog_1_method_25_code 46 = .ok (.iload_n 3, 1) := by decide +kernel
theorem d_BH_see_47 : decode prog_1_method_25_code 47 = .ok (.iload_n 2, 1) := by decide +kernel
theorem d_BH_see_48 : decode prog_1_method_25_code 48 = .ok (.if_icmp .ge 24, 3) := by decide +kernel
theorem d_BH_see_51 : decode prog_1_method_25_code 51 = .ok (.aload_n 0, 1) := by decide +kernel
theorem d_BH_see_52 : decode prog_1_method_25_code 52 = .ok (.getfield 58, 3) := by decide +kernel
theorem d_BH_see_55 : decode prog_1_method_25_code 55 = .ok (.iload_n 3, 1) := by decide +kernel
theorem d_BH_see_56 : decode prog_1_method_25_code 56 = .ok (.aload_n 0, 1) := by decide +kernel
theorem d_BH_see_57 : decode prog_1_method_25_code 57 = .ok (.getfield 10, 3) := by decide +kernel
theorem d_BH_see_60 : decode prog_1_method_25_code 60 = .ok (.getfield 76, 3) := by decide +kernel
theorem d_BH_see_63 : decode prog_1_method_25_code 63 = .ok (.iload_n 3, 1) := by decide +kernel
theorem d_BH_see_64 : decode prog_1_method_25_code 64 = .ok (.iaload, 1) := by decide +kernel
theorem d_BH_see_65 : decode prog_1_method_25_code 65 = .ok (.iastore, 1) := by decide +kernel
theorem d_BH_see_66 : decode prog_1_method_25_code 66 = .ok (.iinc 3 1, 3) := by decide +kernel
theorem d_BH_see_69 : decode prog_1_method_25_code 69 = .ok (.goto (-23), 3) := by decide +kernel
theorem d_BH_see_72 : decode prog_1_method_25_code 72 = .ok (.aload_n 0, 1) := by decide +kernel
theorem d_BH_see_73 : decode prog_1_method_25_code 73 = .ok (.iload_n 2, 1) := by decide +kernel
theorem d_BH_see_74 : decode prog_1_method_25_code 74 = .ok (.putfield 90, 3) := by decide +kernel
theorem d_BH_see_77 : decode prog_1_method_25_code 77 = .ok (.aload_n 0, 1) := by decide +kernel
theorem d_BH_see_78 : decode prog_1_method_25_code 78 = .ok (.iload_n 1, 1) := by decide +kernel
theorem d_BH_see_79 : decode prog_1_method_25_code 79 = .ok (.putfield 249, 3) := by decide +kernel
theorem d_BH_see_82 : decode prog_1_method_25_code 82 = .ok (.iconst 1, 1) := by decide +kernel
theorem d_BH_see_83 : decode prog_1_method_25_code 83 = .ok (.ireturn, 1) := by decide +kernel
theorem d_BH_waysOfBlow_0 : decode prog_1_method_45_code 0 = .ok (.iload_n 1, 1) := by decide +kernel
theorem d_BH_waysOfBlow_1 : decode prog_1_method_45_code 1 = .ok (.ifCond .lt 12, 3) := by decide +kernel
theorem d_BH_waysOfBlow_4 : decode prog_1_method_45_code 4 = .ok (.iload_n 1, 1) := by decide +kernel
theorem d_BH_waysOfBlow_5 : decode prog_1_method_45_code 5 = .ok (.aload_n 0, 1) := by decide +kernel
theorem d_BH_waysOfBlow_6 : decode prog_1_method_45_code 6 = .ok (.getfield 58, 3) := by decide +kernel
theorem d_BH_waysOfBlow_9 : decode prog_1_method_45_code 9 = .ok (.arraylength, 1) := by decide +kernel
theorem d_BH_waysOfBlow_10 : decode prog_1_method_45_code 10 = .ok (.if_icmp .lt 5, 3) := by decide +kernel
theorem d_BH_waysOfBlow_13 : decode prog_1_method_45_code 13 = .ok (.iconst 0, 1) := by decide +kernel
theorem d_BH_waysOfBlow_14 : decode prog_1_method_45_code 14 = .ok (.ireturn, 1) := by decide +kernel
theorem d_BH_waysOfBlow_15 : decode prog_1_method_45_code 15 = .ok (.iconst 0, 1) := by decide +kernel
theorem d_BH_waysOfBlow_16 : decode prog_1_method_45_code 16 = .ok (.istore_n 3, 1) := by decide +kernel
theorem d_BH_waysOfBlow_17 : decode prog_1_method_45_code 17 = .ok (.iconst 0, 1) := by decide +kernel
theorem d_BH_waysOfBlow_18 : decode prog_1_method_45_code 18 = .ok (.istore 4, 2) := by decide +kernel
theorem d_BH_waysOfBlow_20 : decode prog_1_method_45_code 20 = .ok (.iload 4, 2) := by decide +kernel
theorem d_BH_waysOfBlow_22 : decode prog_1_method_45_code 22 = .ok (.aload_n 0, 1) := by decide +kernel
theorem d_BH_waysOfBlow_23 : decode prog_1_method_45_code 23 = .ok (.getfield 40, 3) := by decide +kernel
theorem d_BH_waysOfBlow_26 : decode prog_1_method_45_code 26 = .ok (.getfield 262, 3) := by decide +kernel
theorem d_BH_waysOfBlow_29 : decode prog_1_method_45_code 29 = .ok (.if_icmp .gt 32, 3) := by decide +kernel
theorem d_BH_waysOfBlow_32 : decode prog_1_method_45_code 32 = .ok (.aload_n 0, 1) := by decide +kernel
theorem d_BH_waysOfBlow_33 : decode prog_1_method_45_code 33 = .ok (.getfield 40, 3) := by decide +kernel
theorem d_BH_waysOfBlow_36 : decode prog_1_method_45_code 36 = .ok (.iload_n 1, 1) := by decide +kernel
theorem d_BH_waysOfBlow_37 : decode prog_1_method_45_code 37 = .ok (.iload 4, 2) := by decide +kernel
theorem d_BH_waysOfBlow_39 : decode prog_1_method_45_code 39 = .ok (.iload_n 2, 1) := by decide +kernel
theorem d_BH_waysOfBlow_40 : decode prog_1_method_45_code 40 = .ok (.invokevirtual 167, 3) := by decide +kernel
theorem d_BH_waysOfBlow_43 : decode prog_1_method_45_code 43 = .ok (.aload_n 0, 1) := by decide +kernel
theorem d_BH_waysOfBlow_44 : decode prog_1_method_45_code 44 = .ok (.getfield 58, 3) := by decide +kernel
theorem d_BH_waysOfBlow_47 : decode prog_1_method_45_code 47 = .ok (.iload_n 1, 1) := by decide +kernel
theorem d_BH_waysOfBlow_48 : decode prog_1_method_45_code 48 = .ok (.iaload, 1) := by decide +kernel
theorem d_BH_waysOfBlow_49 : decode prog_1_method_45_code 49 = .ok (.if_icmp .ne 6, 3) := by decide +kernel
theorem d_BH_waysOfBlow_52 : decode prog_1_method_45_code 52 = .ok (.iinc 3 1, 3) := by decide +kernel
theorem d_BH_waysOfBlow_55 : decode prog_1_method_45_code 55 = .ok (.iinc 4 1, 3) := by decide +kernel
theorem d_BH_waysOfBlow_58 : decode prog_1_method_45_code 58 = .ok (.goto (-38), 3) := by decide +kernel
theorem d_BH_waysOfBlow_61 : decode prog_1_method_45_code 61 = .ok (.iload_n 3, 1) := by decide +kernel
theorem d_BH_waysOfBlow_62 : decode prog_1_method_45_code 62 = .ok (.ireturn, 1) := by decide +kernel
theorem d_BH_waysSeen_0 : decode prog_1_method_44_code 0 = .ok (.iconst 1, 1) := by decide +kernel
theorem d_BH_waysSeen_1 : decode prog_1_method_44_code 1 = .ok (.istore_n 1, 1) := by decide +kernel
theorem d_BH_waysSeen_2 : decode prog_1_method_44_code 2 = .ok (.iconst 0, 1) := by decide +kernel
theorem d_BH_waysSeen_3 : decode prog_1_method_44_code 3 = .ok (.istore_n 2, 1) := by decide +kernel
theorem d_BH_waysSeen_4 : decode prog_1_method_44_code 4 = .ok (.iload_n 2, 1) := by decide +kernel
theorem d_BH_waysSeen_5 : decode prog_1_method_44_code 5 = .ok (.aload_n 0, 1) := by decide +kernel
theorem d_BH_waysSeen_6 : decode prog_1_method_44_code 6 = .ok (.getfield 90, 3) := by decide +kernel
theorem d_BH_waysSeen_9 : decode prog_1_method_44_code 9 = .ok (.if_icmp .ge 25, 3) := by decide +kernel
theorem d_BH_waysSeen_12 : decode prog_1_method_44_code 12 = .ok (.iload_n 1, 1) := by decide +kernel
theorem d_BH_waysSeen_13 : decode prog_1_method_44_code 13 = .ok (.aload_n 0, 1) := by decide +kernel
theorem d_BH_waysSeen_14 : decode prog_1_method_44_code 14 = .ok (.iload_n 2, 1) := by decide +kernel
theorem d_BH_waysSeen_15 : decode prog_1_method_44_code 15 = .ok (.iconst 0, 1) := by decide +kernel
theorem d_BH_waysSeen_16 : decode prog_1_method_44_code 16 = .ok (.invokevirtual 255, 3) := by decide +kernel
theorem d_BH_waysSeen_19 : decode prog_1_method_44_code 19 = .ok (.aload_n 0, 1) := by decide +kernel
theorem d_BH_waysSeen_20 : decode prog_1_method_44_code 20 = .ok (.iload_n 2, 1) := by decide +kernel
theorem d_BH_waysSeen_21 : decode prog_1_method_44_code 21 = .ok (.iconst 1, 1) := by decide +kernel
theorem d_BH_waysSeen_22 : decode prog_1_method_44_code 22 = .ok (.invokevirtual 255, 3) := by decide +kernel
theorem d_BH_waysSeen_25 : decode prog_1_method_44_code 25 = .ok (.iadd, 1) := by decide +kernel
theorem d_BH_waysSeen_26 : decode prog_1_method_44_code 26 = .ok (.imul, 1) := by decide +kernel
theorem d_BH_waysSeen_27 : decode prog_1_method_44_code 27 = .ok (.istore_n 1, 1) := by decide +kernel
theorem d_BH_waysSeen_28 : decode prog_1_method_44_code 28 = .ok (.iinc 2 1, 3) := by decide +kernel
theorem d_BH_waysSeen_31 : decode prog_1_method_44_code 31 = .ok (.goto (-27), 3) := by decide +kernel
theorem d_BH_waysSeen_34 : decode prog_1_method_44_code 34 = .ok (.iload_n 1, 1) := by decide +kernel
theorem d_BH_waysSeen_35 : decode prog_1_method_44_code 35 = .ok (.ireturn, 1) := by decide +kernel
theorem d_BH_was_0 : decode prog_1_method_26_code 0 = .ok (.aload_n 0, 1) := by decide +kernel
theorem d_BH_was_1 : decode prog_1_method_26_code 1 = .ok (.getfield 90, 3) := by decide +kernel
theorem d_BH_was_4 : decode prog_1_method_26_code 4 = .ok (.ifCond .eq 16, 3) := by decide +kernel
theorem d_BH_was_7 : decode prog_1_method_26_code 7 = .ok (.iload_n 1, 1) := by decide +kernel
theorem d_BH_was_8 : decode prog_1_method_26_code 8 = .ok (.iconst (-1), 1) := by decide +kernel
theorem d_BH_was_9 : decode prog_1_method_26_code 9 = .ok (.if_icmp .lt 11, 3) := by decide +kernel
theorem d_BH_was_12 : decode prog_1_method_26_code 12 = .ok (.iload_n 1, 1) := by decide +kernel
theorem d_BH_was_13 : decode prog_1_method_26_code 13 = .ok (.aload_n 0, 1) := by decide +kernel
theorem d_BH_was_14 : decode prog_1_method_26_code 14 = .ok (.getfield 90, 3) := by decide +kernel
theorem d_BH_was_17 : decode prog_1_method_26_code 17 = .ok (.if_icmp .lt 5, 3) := by decide +kernel
theorem d_BH_was_20 : decode prog_1_method_26_code 20 = .ok (.iconst (-1), 1) := by decide +kernel
theorem d_BH_was_21 : decode prog_1_method_26_code 21 = .ok (.ireturn, 1) := by decide +kernel
theorem d_BH_was_22 : decode prog_1_method_26_code 22 = .ok (.aload_n 0, 1) := by decide +kernel
theorem d_BH_was_23 : decode prog_1_method_26_code 23 = .ok (.getfield 40, 3) := by decide +kernel
theorem d_BH_was_26 : decode prog_1_method_26_code 26 = .ok (.aload_n 0, 1) := by decide +kernel
theorem d_BH_was_27 : decode prog_1_method_26_code 27 = .ok (.getfield 54, 3) := by decide +kernel
theorem d_BH_was_30 : decode prog_1_method_26_code 30 = .ok (.aload_n 0, 1) := by decide +kernel
theorem d_BH_was_31 : decode prog_1_method_26_code 31 = .ok (.getfield 249, 3) := by decide +kernel
theorem d_BH_was_34 : decode prog_1_method_26_code 34 = .ok (.aload_n 0, 1) := by decide +kernel
theorem d_BH_was_35 : decode prog_1_method_26_code 35 = .ok (.getfield 26, 3) := by decide +kernel
theorem d_BH_was_38 : decode prog_1_method_26_code 38 = .ok (.getfield 114, 3) := by decide +kernel
theorem d_BH_was_41 : decode prog_1_method_26_code 41 = .ok (.invokevirtual 163, 3) := by decide +kernel
theorem d_BH_was_44 : decode prog_1_method_26_code 44 = .ok (.aload_n 0, 1) := by decide +kernel
theorem d_BH_was_45 : decode prog_1_method_26_code 45 = .ok (.invokevirtual 252, 3) := by decide +kernel
theorem d_BH_was_48 : decode prog_1_method_26_code 48 = .ok (.istore_n 2, 1) := by decide +kernel
theorem d_BH_was_49 : decode prog_1_method_26_code 49 = .ok (.iload_n 1, 1) := by decide +kernel
theorem d_BH_was_50 : decode prog_1_method_26_code 50 = .ok (.iconst (-1), 1) := by decide +kernel
theorem d_BH_was_51 : decode prog_1_method_26_code 51 = .ok (.if_icmp .ne 5, 3) := by decide +kernel
theorem d_BH_was_54 : decode prog_1_method_26_code 54 = .ok (.iload_n 2, 1) := by decide +kernel
theorem d_BH_was_55 : decode prog_1_method_26_code 55 = .ok (.ireturn, 1) := by decide +kernel
theorem d_BH_was_56 : decode prog_1_method_26_code 56 = .ok (.aload_n 0, 1) := by decide +kernel
theorem d_BH_was_57 : decode prog_1_method_26_code 57 = .ok (.iload_n 1, 1) := by decide +kernel
theorem d_BH_was_58 : decode prog_1_method_26_code 58 = .ok (.iconst 1, 1) := by decide +kernel
theorem d_BH_was_59 : decode prog_1_method_26_code 59 = .ok (.invokevirtual 255, 3) := by decide +kernel
theorem d_BH_was_62 : decode prog_1_method_26_code 62 = .ok (.istore_n 3, 1) := by decide +kernel
theorem d_BH_was_63 : decode prog_1_method_26_code 63 = .ok (.iload_n 3, 1) := by decide +kernel
theorem d_BH_was_64 : decode prog_1_method_26_code 64 = .ok (.aload_n 0, 1) := by decide +kernel
theorem d_BH_was_65 : decode prog_1_method_26_code 65 = .ok (.iload_n 1, 1) := by decide +kernel
theorem d_BH_was_66 : decode prog_1_method_26_code 66 = .ok (.iconst 0, 1) := by decide +kernel
theorem d_BH_was_67 : decode prog_1_method_26_code 67 = .ok (.invokevirtual 255, 3) := by decide +kernel
theorem d_BH_was_70 : decode prog_1_method_26_code 70 = .ok (.iadd, 1) := by decide +kernel
theorem d_BH_was_71 : decode prog_1_method_26_code 71 = .ok (.istore 4, 2) := by decide +kernel
theorem d_BH_was_73 : decode prog_1_method_26_code 73 = .ok (.iload_n 2, 1) := by decide +kernel
theorem d_BH_was_74 : decode prog_1_method_26_code 74 = .ok (.ifCond .eq 8, 3) := by decide +kernel
theorem d_BH_was_77 : decode prog_1_method_26_code 77 = .ok (.iload 4, 2) := by decide +kernel
theorem d_BH_was_79 : decode prog_1_method_26_code 79 = .ok (.ifCond .ne 7, 3) := by decide +kernel
theorem d_BH_was_82 : decode prog_1_method_26_code 82 = .ok (.iconst 0, 1) := by decide +kernel
theorem d_BH_was_83 : decode prog_1_method_26_code 83 = .ok (.goto 11, 3) := by decide +kernel
theorem d_BH_was_86 : decode prog_1_method_26_code 86 = .ok (.sipush 1000, 3) := by decide +kernel
theorem d_BH_was_89 : decode prog_1_method_26_code 89 = .ok (.iload_n 3, 1) := by decide +kernel
theorem d_BH_was_90 : decode prog_1_method_26_code 90 = .ok (.imul, 1) := by decide +kernel
theorem d_BH_was_91 : decode prog_1_method_26_code 91 = .ok (.iload 4, 2) := by decide +kernel
theorem d_BH_was_93 : decode prog_1_method_26_code 93 = .ok (.idiv, 1) := by decide +kernel
theorem d_BH_was_94 : decode prog_1_method_26_code 94 = .ok (.ireturn, 1) := by decide +kernel
theorem d_BH_strong_0 : decode prog_1_method_27_code 0 = .ok (.aload_n 0, 1) := by decide +kernel
theorem d_BH_strong_1 : decode prog_1_method_27_code 1 = .ok (.getfield 90, 3) := by decide +kernel
theorem d_BH_strong_4 : decode prog_1_method_27_code 4 = .ok (.ifCond .eq 12, 3) := by decide +kernel
theorem d_BH_strong_7 : decode prog_1_method_27_code 7 = .ok (.iload_n 1, 1) := by decide +kernel
theorem d_BH_strong_8 : decode prog_1_method_27_code 8 = .ok (.ifCond .lt 8, 3) := by decide +kernel
theorem d_BH_strong_11 : decode prog_1_method_27_code 11 = .ok (.iload_n 1, 1) := by decide +kernel
theorem d_BH_strong_12 : decode prog_1_method_27_code 12 = .ok (.iconst 2, 1) := by decide +kernel
theorem d_BH_strong_13 : decode prog_1_method_27_code 13 = .ok (.if_icmp .le 5, 3) := by decide +kernel
theorem d_BH_strong_16 : decode prog_1_method_27_code 16 = .ok (.iconst (-1), 1) := by decide +kernel
theorem d_BH_strong_17 : decode prog_1_method_27_code 17 = .ok (.ireturn, 1) := by decide +kernel
theorem d_BH_strong_18 : decode prog_1_method_27_code 18 = .ok (.aload_n 0, 1) := by decide +kernel
theorem d_BH_strong_19 : decode prog_1_method_27_code 19 = .ok (.getfield 40, 3) := by decide +kernel
theorem d_BH_strong_22 : decode prog_1_method_27_code 22 = .ok (.aload_n 0, 1) := by decide +kernel
theorem d_BH_strong_23 : decode prog_1_method_27_code 23 = .ok (.getfield 54, 3) := by decide +kernel
theorem d_BH_strong_26 : decode prog_1_method_27_code 26 = .ok (.aload_n 0, 1) := by decide +kernel
theorem d_BH_strong_27 : decode prog_1_method_27_code 27 = .ok (.getfield 249, 3) := by decide +kernel
theorem d_BH_strong_30 : decode prog_1_method_27_code 30 = .ok (.aload_n 0, 1) := by decide +kernel
theorem d_BH_strong_31 : decode prog_1_method_27_code 31 = .ok (.getfield 26, 3) := by decide +kernel
theorem d_BH_strong_34 : decode prog_1_method_27_code 34 = .ok (.getfield 114, 3) := by decide +kernel
theorem d_BH_strong_37 : decode prog_1_method_27_code 37 = .ok (.invokevirtual 163, 3) := by decide +kernel
theorem d_BH_strong_40 : decode prog_1_method_27_code 40 = .ok (.iconst 0, 1) := by decide +kernel
theorem d_BH_strong_41 : decode prog_1_method_27_code 41 = .ok (.istore_n 2, 1) := by decide +kernel
theorem d_BH_strong_42 : decode prog_1_method_27_code 42 = .ok (.iconst (-1), 1) := by decide +kernel
theorem d_BH_strong_43 : decode prog_1_method_27_code 43 = .ok (.istore_n 3, 1) := by decide +kernel
theorem d_BH_strong_44 : decode prog_1_method_27_code 44 = .ok (.iconst (-1), 1) := by decide +kernel
theorem d_BH_strong_45 : decode prog_1_method_27_code 45 = .ok (.istore 4, 2) := by decide +kernel
theorem d_BH_strong_47 : decode prog_1_method_27_code 47 = .ok (.iconst 1, 1) := by decide +kernel
theorem d_BH_strong_48 : decode prog_1_method_27_code 48 = .ok (.istore 5, 2) := by decide +kernel
theorem d_BH_strong_50 : decode prog_1_method_27_code 50 = .ok (.iload 5, 2) := by decide +kernel
theorem d_BH_strong_52 : decode prog_1_method_27_code 52 = .ok (.bipush 99, 2) := by decide +kernel
theorem d_BH_strong_54 : decode prog_1_method_27_code 54 = .ok (.if_icmp .gt 44, 3) := by decide +kernel
theorem d_BH_strong_57 : decode prog_1_method_27_code 57 = .ok (.aload_n 0, 1) := by decide +kernel
theorem d_BH_strong_58 : decode prog_1_method_27_code 58 = .ok (.getfield 40, 3) := by decide +kernel
theorem d_BH_strong_61 : decode prog_1_method_27_code 61 = .ok (.iload 5, 2) := by decide +kernel
theorem d_BH_strong_63 : decode prog_1_method_27_code 63 = .ok (.putfield 259, 3) := by decide +kernel
theorem d_BH_strong_66 : decode prog_1_method_27_code 66 = .ok (.aload_n 0, 1) := by decide +kernel
theorem d_BH_strong_67 : decode prog_1_method_27_code 67 = .ok (.invokevirtual 252, 3) := by decide +kernel
theorem d_BH_strong_70 : decode prog_1_method_27_code 70 = .ok (.ifCond .le 22, 3) := by decide +kernel
theorem d_BH_strong_73 : decode prog_1_method_27_code 73 = .ok (.iinc 2 1, 3) := by decide +kernel
theorem d_BH_strong_76 : decode prog_1_method_27_code 76 = .ok (.iload_n 3, 1) := by decide +kernel
theorem d_BH_strong_77 : decode prog_1_method_27_code 77 = .ok (.iconst (-1), 1) := by decide +kernel
theorem d_BH_strong_78 : decode prog_1_method_27_code 78 = .ok (.if_icmp .ne 8, 3) := by decide +kernel
theorem d_BH_strong_81 : decode prog_1_method_27_code 81 = .ok (.iload 5, 2) := by decide +kernel
theorem d_BH_strong_83 : decode prog_1_method_27_code 83 = .ok (.goto 4, 3) := by decide +kernel
theorem d_BH_strong_86 : decode prog_1_method_27_code 86 = .ok (.iload_n 3, 1) := by decide +kernel
theorem d_BH_strong_87 : decode prog_1_method_27_code 87 = .ok (.istore_n 3, 1) := by decide +kernel
theorem d_BH_strong_88 : decode prog_1_method_27_code 88 = .ok (.iload 5, 2) := by decide +kernel
theorem d_BH_strong_90 : decode prog_1_method_27_code 90 = .ok (.istore 4, 2) := by decide +kernel
theorem d_BH_strong_92 : decode prog_1_method_27_code 92 = .ok (.iinc 5 1, 3) := by decide +kernel
theorem d_BH_strong_95 : decode prog_1_method_27_code 95 = .ok (.goto (-45), 3) := by decide +kernel
theorem d_BH_strong_98 : decode prog_1_method_27_code 98 = .ok (.iload_n 1, 1) := by decide +kernel
theorem d_BH_strong_99 : decode prog_1_method_27_code 99 = .ok (.ifCond .ne 5, 3) := by decide +kernel
theorem d_BH_strong_102 : decode prog_1_method_27_code 102 = .ok (.iload_n 2, 1) := by decide +kernel
theorem d_BH_strong_103 : decode prog_1_method_27_code 103 = .ok (.ireturn, 1) := by decide +kernel
theorem d_BH_strong_104 : decode prog_1_method_27_code 104 = .ok (.iload_n 1, 1) := by decide +kernel
theorem d_BH_strong_105 : decode prog_1_method_27_code 105 = .ok (.iconst 1, 1) := by decide +kernel
theorem d_BH_strong_106 : decode prog_1_method_27_code 106 = .ok (.if_icmp .ne 7, 3) := by decide +kernel
theorem d_BH_strong_109 : decode prog_1_method_27_code 109 = .ok (.iload_n 3, 1) := by decide +kernel
theorem d_BH_strong_110 : decode prog_1_method_27_code 110 = .ok (.goto 5, 3) := by decide +kernel
theorem d_BH_strong_113 : decode prog_1_method_27_code 113 = .ok (.iload 4, 2) := by decide +kernel
theorem d_BH_strong_115 : decode prog_1_method_27_code 115 = .ok (.ireturn, 1) := by decide +kernel
theorem d_BH_next_0 : decode prog_1_method_28_code 0 = .ok (.aload_n 0, 1) := by decide +kernel
theorem d_BH_next_1 : decode prog_1_method_28_code 1 = .ok (.getfield 90, 3) := by decide +kernel
theorem d_BH_next_4 : decode prog_1_method_28_code 4 = .ok (.ifCond .eq 19, 3) := by decide +kernel
theorem d_BH_next_7 : decode prog_1_method_28_code 7 = .ok (.aload_n 0, 1) := by decide +kernel
theorem d_BH_next_8 : decode prog_1_method_28_code 8 = .ok (.getfield 90, 3) := by decide +kernel
theorem d_BH_next_11 : decode prog_1_method_28_code 11 = .ok (.aload_n 0, 1) := by decide +kernel
theorem d_BH_next_12 : decode prog_1_method_28_code 12 = .ok (.getfield 54, 3) := by decide +kernel
theorem d_BH_next_15 : decode prog_1_method_28_code 15 = .ok (.getfield 117, 3) := by decide +kernel
theorem d_BH_next_18 : decode prog_1_method_28_code 18 = .ok (.iconst 3, 1) := by decide +kernel
theorem d_BH_next_19 : decode prog_1_method_28_code 19 = .ok (.iaload, 1) := by decide +kernel
theorem d_BH_next_20 : decode prog_1_method_28_code 20 = .ok (.if_icmp .lt 5, 3) := by decide +kernel
theorem d_BH_next_23 : decode prog_1_method_28_code 23 = .ok (.iconst (-1), 1) := by decide +kernel
theorem d_BH_next_24 : decode prog_1_method_28_code 24 = .ok (.ireturn, 1) := by decide +kernel
theorem d_BH_next_25 : decode prog_1_method_28_code 25 = .ok (.aload_n 0, 1) := by decide +kernel
theorem d_BH_next_26 : decode prog_1_method_28_code 26 = .ok (.getfield 40, 3) := by decide +kernel
theorem d_BH_next_29 : decode prog_1_method_28_code 29 = .ok (.aload_n 0, 1) := by decide +kernel
theorem d_BH_next_30 : decode prog_1_method_28_code 30 = .ok (.getfield 54, 3) := by decide +kernel
theorem d_BH_next_33 : decode prog_1_method_28_code 33 = .ok (.aload_n 0, 1) := by decide +kernel
theorem d_BH_next_34 : decode prog_1_method_28_code 34 = .ok (.getfield 249, 3) := by decide +kernel
theorem d_BH_next_37 : decode prog_1_method_28_code 37 = .ok (.aload_n 0, 1) := by decide +kernel
theorem d_BH_next_38 : decode prog_1_method_28_code 38 = .ok (.getfield 26, 3) := by decide +kernel
theorem d_BH_next_41 : decode prog_1_method_28_code 41 = .ok (.getfield 114, 3) := by decide +kernel
theorem d_BH_next_44 : decode prog_1_method_28_code 44 = .ok (.invokevirtual 163, 3) := by decide +kernel
theorem d_BH_next_47 : decode prog_1_method_28_code 47 = .ok (.iconst 0, 1) := by decide +kernel
theorem d_BH_next_48 : decode prog_1_method_28_code 48 = .ok (.istore_n 2, 1) := by decide +kernel
theorem d_BH_next_49 : decode prog_1_method_28_code 49 = .ok (.iconst 0, 1) := by decide +kernel
theorem d_BH_next_50 : decode prog_1_method_28_code 50 = .ok (.istore_n 3, 1) := by decide +kernel
theorem d_BH_next_51 : decode prog_1_method_28_code 51 = .ok (.iload_n 3, 1) := by decide +kernel
theorem d_BH_next_52 : decode prog_1_method_28_code 52 = .ok (.aload_n 0, 1) := by decide +kernel
theorem d_BH_next_53 : decode prog_1_method_28_code 53 = .ok (.getfield 40, 3) := by decide +kernel
theorem d_BH_next_56 : decode prog_1_method_28_code 56 = .ok (.getfield 262, 3) := by decide +kernel
theorem d_BH_next_59 : decode prog_1_method_28_code 59 = .ok (.if_icmp .gt 35, 3) := by decide +kernel
theorem d_BH_next_62 : decode prog_1_method_28_code 62 = .ok (.aload_n 0, 1) := by decide +kernel
theorem d_BH_next_63 : decode prog_1_method_28_code 63 = .ok (.getfield 40, 3) := by decide +kernel
theorem d_BH_next_66 : decode prog_1_method_28_code 66 = .ok (.aload_n 0, 1) := by decide +kernel
theorem d_BH_next_67 : decode prog_1_method_28_code 67 = .ok (.getfield 40, 3) := by decide +kernel
theorem d_BH_next_70 : decode prog_1_method_28_code 70 = .ok (.aload_n 0, 1) := by decide +kernel
theorem d_BH_next_71 : decode prog_1_method_28_code 71 = .ok (.getfield 90, 3) := by decide +kernel
theorem d_BH_next_74 : decode prog_1_method_28_code 74 = .ok (.iload_n 3, 1) := by decide +kernel
theorem d_BH_next_75 : decode prog_1_method_28_code 75 = .ok (.iload_n 1, 1) := by decide +kernel
theorem d_BH_next_76 : decode prog_1_method_28_code 76 = .ok (.invokevirtual 167, 3) := by decide +kernel
theorem d_BH_next_79 : decode prog_1_method_28_code 79 = .ok (.invokevirtual 265, 3) := by decide +kernel
theorem d_BH_next_82 : decode prog_1_method_28_code 82 = .ok (.ifCond .eq 6, 3) := by decide +kernel
theorem d_BH_next_85 : decode prog_1_method_28_code 85 = .ok (.iinc 2 1, 3) := by decide +kernel
theorem d_BH_next_88 : decode prog_1_method_28_code 88 = .ok (.iinc 3 1, 3) := by decide +kernel
theorem d_BH_next_91 : decode prog_1_method_28_code 91 = .ok (.goto (-40), 3) := by decide +kernel
theorem d_BH_next_94 : decode prog_1_method_28_code 94 = .ok (.aload_n 0, 1) := by decide +kernel
theorem d_BH_next_95 : decode prog_1_method_28_code 95 = .ok (.getfield 40, 3) := by decide +kernel
theorem d_BH_next_98 : decode prog_1_method_28_code 98 = .ok (.getfield 262, 3) := by decide +kernel
theorem d_BH_next_101 : decode prog_1_method_28_code 101 = .ok (.iconst 1, 1) := by decide +kernel
theorem d_BH_next_102 : decode prog_1_method_28_code 102 = .ok (.iadd, 1) := by decide +kernel
theorem d_BH_next_103 : decode prog_1_method_28_code 103 = .ok (.istore_n 3, 1) := by decide +kernel
theorem d_BH_next_104 : decode prog_1_method_28_code 104 = .ok (.iload_n 3, 1) := by decide +kernel
theorem d_BH_next_105 : decode prog_1_method_28_code 105 = .ok (.ifCond .gt 7, 3) := by decide +kernel
theorem d_BH_next_108 : decode prog_1_method_28_code 108 = .ok (.iconst (-1), 1) := by decide +kernel
theorem d_BH_next_109 : decode prog_1_method_28_code 109 = .ok (.goto 10, 3) := by decide +kernel
theorem d_BH_next_112 : decode prog_1_method_28_code 112 = .ok (.sipush 1000, 3) := by decide +kernel
theorem d_BH_next_115 : decode prog_1_method_28_code 115 = .ok (.iload_n 2, 1) := by decide +kernel
theorem d_BH_next_116 : decode prog_1_method_28_code 116 = .ok (.imul, 1) := by decide +kernel
theorem d_BH_next_117 : decode prog_1_method_28_code 117 = .ok (.iload_n 3, 1) := by decide +kernel
theorem d_BH_next_118 : decode prog_1_method_28_code 118 = .ok (.idiv, 1) := by decide +kernel
theorem d_BH_next_119 : decode prog_1_method_28_code 119 = .ok (.ireturn, 1) := by decide +kernel
theorem d_BH_isTellingOff_0 : decode prog_1_method_46_code 0 = .ok (.aload_n 0, 1) := by decide +kernel
theorem d_BH_isTellingOff_1 : decode prog_1_method_46_code 1 = .ok (.getfield 40, 3) := by decide +kernel
theorem d_BH_isTellingOff_4 : decode prog_1_method_46_code 4 = .ok (.iconst 0, 1) := by decide +kernel
theorem d_BH_isTellingOff_5 : decode prog_1_method_46_code 5 = .ok (.iload_n 1, 1) := by decide +kernel
theorem d_BH_isTellingOff_6 : decode prog_1_method_46_code 6 = .ok (.iconst 0, 1) := by decide +kernel
theorem d_BH_isTellingOff_7 : decode prog_1_method_46_code 7 = .ok (.invokevirtual 167, 3) := by decide +kernel
theorem d_BH_isTellingOff_10 : decode prog_1_method_46_code 10 = .ok (.istore_n 2, 1) := by decide +kernel
theorem d_BH_isTellingOff_11 : decode prog_1_method_46_code 11 = .ok (.aload_n 0, 1) := by decide +kernel
theorem d_BH_isTellingOff_12 : decode prog_1_method_46_code 12 = .ok (.getfield 40, 3) := by decide +kernel
theorem d_BH_isTellingOff_15 : decode prog_1_method_46_code 15 = .ok (.iconst 0, 1) := by decide +kernel
theorem d_BH_isTellingOff_16 : decode prog_1_method_46_code 16 = .ok (.iload_n 1, 1) := by decide +kernel
theorem d_BH_isTellingOff_17 : decode prog_1_method_46_code 17 = .ok (.iconst 1, 1) := by decide +kernel
theorem d_BH_isTellingOff_18 : decode prog_1_method_46_code 18 = .ok (.invokevirtual 167, 3) := by decide +kernel
theorem d_BH_isTellingOff_21 : decode prog_1_method_46_code 21 = .ok (.istore_n 3, 1) := by decide +kernel
theorem d_BH_isTellingOff_22 : decode prog_1_method_46_code 22 = .ok (.iconst 0, 1) := by decide +kernel
theorem d_BH_isTellingOff_23 : decode prog_1_method_46_code 23 = .ok (.istore 4, 2) := by decide +kernel
theorem d_BH_isTellingOff_25 : decode prog_1_method_46_code 25 = .ok (.iload 4, 2) := by decide +kernel
theorem d_BH_isTellingOff_27 : decode prog_1_method_46_code 27 = .ok (.iload_n 1, 1) := by decide +kernel
theorem d_BH_isTellingOff_28 : decode prog_1_method_46_code 28 = .ok (.if_icmp .gt 41, 3) := by decide +kernel
theorem d_BH_isTellingOff_31 : decode prog_1_method_46_code 31 = .ok (.aload_n 0, 1) := by decide +kernel
theorem d_BH_isTellingOff_32 : decode prog_1_method_46_code 32 = .ok (.getfield 40, 3) := by decide +kernel
theorem d_BH_isTellingOff_35 : decode prog_1_method_46_code 35 = .ok (.iconst 0, 1) := by decide +kernel
theorem d_BH_isTellingOff_36 : decode prog_1_method_46_code 36 = .ok (.iload 4, 2) := by decide +kernel
theorem d_BH_isTellingOff_38 : decode prog_1_method_46_code 38 = .ok (.iconst 1, 1) := by decide +kernel
theorem d_BH_isTellingOff_39 : decode prog_1_method_46_code 39 = .ok (.invokevirtual 167, 3) := by decide +kernel
theorem d_BH_isTellingOff_42 : decode prog_1_method_46_code 42 = .ok (.iload_n 2, 1) := by decide +kernel
theorem d_BH_isTellingOff_43 : decode prog_1_method_46_code 43 = .ok (.if_icmp .eq 18, 3) := by decide +kernel
theorem d_BH_isTellingOff_46 : decode prog_1_method_46_code 46 = .ok (.aload_n 0, 1) := by decide +kernel
theorem d_BH_isTellingOff_47 : decode prog_1_method_46_code 47 = .ok (.getfield 40, 3) := by decide +kernel
theorem d_BH_isTellingOff_50 : decode prog_1_method_46_code 50 = .ok (.iconst 0, 1) := by decide +kernel
theorem d_BH_isTellingOff_51 : decode prog_1_method_46_code 51 = .ok (.iload 4, 2) := by decide +kernel
theorem d_BH_isTellingOff_53 : decode prog_1_method_46_code 53 = .ok (.iconst 0, 1) := by decide +kernel
theorem d_BH_isTellingOff_54 : decode prog_1_method_46_code 54 = .ok (.invokevirtual 167, 3) := by decide +kernel
theorem d_BH_isTellingOff_57 : decode prog_1_method_46_code 57 = .ok (.iload_n 3, 1) := by decide +kernel
theorem d_BH_isTellingOff_58 : decode prog_1_method_46_code 58 = .ok (.if_icmp .ne 5, 3) := by decide +kernel
theorem d_BH_isTellingOff_61 : decode prog_1_method_46_code 61 = .ok (.iconst 0, 1) := by decide +kernel
theorem d_BH_isTellingOff_62 : decode prog_1_method_46_code 62 = .ok (.ireturn, 1) := by decide +kernel
theorem d_BH_isTellingOff_63 : decode prog_1_method_46_code 63 = .ok (.iinc 4 1, 3) := by decide +kernel
theorem d_BH_isTellingOff_66 : decode prog_1_method_46_code 66 = .ok (.goto (-41), 3) := by decide +kernel
theorem d_BH_isTellingOff_69 : decode prog_1_method_46_code 69 = .ok (.iconst 1, 1) := by decide +kernel
theorem d_BH_isTellingOff_70 : decode prog_1_method_46_code 70 = .ok (.ireturn, 1) := by decide +kernel
theorem d_BH_clear_0 : decode prog_1_method_29_code 0 = .ok (.aload_n 0, 1) := by decide +kernel
theorem d_BH_clear_1 : decode prog_1_method_29_code 1 = .ok (.iload_n 1, 1) := by decide +kernel
theorem d_BH_clear_2 : decode prog_1_method_29_code 2 = .ok (.invokevirtual 144, 3) := by decide +kernel
theorem d_BH_clear_5 : decode prog_1_method_29_code 5 = .ok (.ifCond .ne 5, 3) := by decide +kernel
theorem d_BH_clear_8 : decode prog_1_method_29_code 8 = .ok (.iconst (-1), 1) := by decide +kernel
theorem d_BH_clear_9 : decode prog_1_method_29_code 9 = .ok (.ireturn, 1) := by decide +kernel
theorem d_BH_clear_10 : decode prog_1_method_29_code 10 = .ok (.aload_n 0, 1) := by decide +kernel
theorem d_BH_clear_11 : decode prog_1_method_29_code 11 = .ok (.getfield 40, 3) := by decide +kernel
theorem d_BH_clear_14 : decode prog_1_method_29_code 14 = .ok (.aload_n 0, 1) := by decide +kernel
theorem d_BH_clear_15 : decode prog_1_method_29_code 15 = .ok (.getfield 54, 3) := by decide +kernel
theorem d_BH_clear_18 : decode prog_1_method_29_code 18 = .ok (.iload_n 1, 1) := by decide +kernel
theorem d_BH_clear_19 : decode prog_1_method_29_code 19 = .ok (.aload_n 0, 1) := by decide +kernel
theorem d_BH_clear_20 : decode prog_1_method_29_code 20 = .ok (.getfield 26, 3) := by decide +kernel
theorem d_BH_clear_23 : decode prog_1_method_29_code 23 = .ok (.getfield 114, 3) := by decide +kernel
theorem d_BH_clear_26 : decode prog_1_method_29_code 26 = .ok (.invokevirtual 163, 3) := by decide +kernel
theorem d_BH_clear_29 : decode prog_1_method_29_code 29 = .ok (.iconst (-1), 1) := by decide +kernel
theorem d_BH_clear_30 : decode prog_1_method_29_code 30 = .ok (.istore_n 2, 1) := by decide +kernel
theorem d_BH_clear_31 : decode prog_1_method_29_code 31 = .ok (.iconst 0, 1) := by decide +kernel
theorem d_BH_clear_32 : decode prog_1_method_29_code 32 = .ok (.istore_n 3, 1) := by decide +kernel
theorem d_BH_clear_33 : decode prog_1_method_29_code 33 = .ok (.iload_n 3, 1) := by decide +kernel
theorem d_BH_clear_34 : decode prog_1_method_29_code 34 = .ok (.bipush 9, 2) := by decide +kernel
theorem d_BH_clear_36 : decode prog_1_method_29_code 36 = .ok (.if_icmp .gt 19, 3) := by decide +kernel
theorem d_BH_clear_39 : decode prog_1_method_29_code 39 = .ok (.aload_n 0, 1) := by decide +kernel
theorem d_BH_clear_40 : decode prog_1_method_29_code 40 = .ok (.iload_n 3, 1) := by decide +kernel
theorem d_BH_clear_41 : decode prog_1_method_29_code 41 = .ok (.invokevirtual 268, 3) := by decide +kernel
theorem d_BH_clear_44 : decode prog_1_method_29_code 44 = .ok (.ifCond .eq 11, 3) := by decide +kernel
theorem d_BH_clear_47 : decode prog_1_method_29_code 47 = .ok (.iload_n 3, 1) := by decide +kernel
theorem d_BH_clear_48 : decode prog_1_method_29_code 48 = .ok (.istore_n 2, 1) := by decide +kernel
theorem d_BH_clear_49 : decode prog_1_method_29_code 49 = .ok (.iinc 3 1, 3) := by decide +kernel
theorem d_BH_clear_52 : decode prog_1_method_29_code 52 = .ok (.goto (-19), 3) := by decide +kernel
theorem d_BH_clear_55 : decode prog_1_method_29_code 55 = .ok (.iload_n 2, 1) := by decide +kernel
theorem d_BH_clear_56 : decode prog_1_method_29_code 56 = .ok (.ireturn, 1) := by decide +kernel
def f_BH_haveTurn_163 (k4 : Int32 → Int32 → Int32 → St → Option (St)) (x1 : Int32) (x2 : Int32) (x3 : Int32) (t0 : Int32) (t1 : Int32) (σ : St) : Option (St) :=
  lt (uI σ 21 (t1 + t0)) fun σ_1 =>
  bp (f_Turn_brings_2 x2 σ_1) fun r_3 =>
  lt (uI σ_1 20 (iMin 999 ((sI σ_1 20) + r_3))) fun σ_4 =>
  lt ((x3 + 1)) fun x_5 =>
  k4 x1 x2 x_5 σ_4
def f_BH_haveTurn_93 (k4 : Int32 → Int32 → Int32 → St → Option (St)) (x1 : Int32) (x3 : Int32) (t0 : Int32) (σ : St) : Option (St) :=
  bd (f_Book_draw ((sI σ 26) + 1) σ) fun r_2 σ_3 =>
  bp (f_Turn_height x3 r_2 t0 σ_3) fun r_5 =>
  bp (f_Book_keep x1 r_2 t0 r_5 σ_3) fun σ_7 =>
  bp (f_Turn_isRing_2 r_5 σ_7) fun r_9 =>
  if r_9 = 0 then
    f_BH_haveTurn_163 k4 x1 r_5 x3 0 (sI σ_7 21) σ_7
  else
    f_BH_haveTurn_163 k4 x1 r_5 x3 1 (sI σ_7 21) σ_7
def f_BH_haveTurn_4b (k4 : Int32 → Int32 → Int32 → St → Option (St)) (x1 : Int32) (x2 : Int32) (x3 : Int32) (σ : St) : Option (St) :=
  if 4 ≤ x3 then
    some σ
  else
    bp (f_Turn_goesOn_2 x3 x2 σ) fun r_2 =>
    if r_2 = 0 then
      some σ
    else
      bp (f_Showman_look (sI σ 20) x3 x2 (sI σ 21) σ) fun σ_4 =>
      bp (f_Turn_coinsBehind_2 x3 σ_4) fun r_6 =>
      bp (f_Showman_lookAt (sI σ_4 30) r_6 σ_4) fun σ_8 =>
      bd (f_Showman_rulesThatHold σ_8) fun r_10 σ_11 =>
      if (r_10 &&& (sI σ_11 19)) = 0 then
        f_BH_haveTurn_93 k4 x1 x3 0 σ_11
      else
        f_BH_haveTurn_93 k4 x1 x3 1 σ_11
def f_BH_haveTurn_4 : Nat → Int32 → Int32 → Int32 → St → Option (St)
  | 0 => fun _ _ _ _ => none
  | n + 1 => f_BH_haveTurn_4b   (f_BH_haveTurn_4   n)
def f_BH_haveTurn (x1 : Int32) (σ : St) : Option (St) :=
  f_BH_haveTurn_4 FU x1 0 0 σ
set_option maxHeartbeats 4000000 in
set_option maxRecDepth 20000 in
theorem t_BH_haveTurn_163 {σ2 : St} (C : Cx g A p s m av meth c prog_1_method_42_code 6 "BellHammer" none) {k4 : Int32 → Int32 → Int32 → St → Option (St)} (hk4 : ∀ (x1 : Int32) (x2 : Int32) (x3 : Int32) (σ : St) (H : Heap) (locs : List Loc) (ls : Array Slot), k4 x1 x2 x3 σ = some σ2 → Wd g (wX g q) A s σ H locs → lv_has ls 6 [(0, .ref (q 0)), (1, .int x1), (2, .int x2), (3, .int x3)] → WK p l e s m av below meth c 4 g (wX g q) A none σ2 H locs (F0 m 4 ls []))  {x1 : Int32} {x2 : Int32} {x3 : Int32} {t0 : Int32} {t1 : Int32} {σ : St} {H : Heap} {locs : List Loc} {ls : Array Slot} (hf : f_BH_haveTurn_163  k4 x1 x2 x3 t0 t1 σ = some σ2) (w : Wd g (wX g q) A s σ H locs) (hl : lv_has ls 6 [(0, .ref (q 0)), (1, .int x1), (2, .int x2), (3, .int x3)]) : WK p l e s m av below meth c 4 g (wX g q) A none σ2 H locs (F0 m 163 ls [.int t0, .int t1, .ref (q 14)]) := by
  obtain ⟨hx, hb, hml, hown, hts, hK, hA, hZ, hlocks, hr, hN⟩ := id C
  unfold f_BH_haveTurn_163 at hf
  refine lv_iadd hx hb d_BH_haveTurn_163 ?_
  refine xp_14_rings C w k346 d_BH_haveTurn_164 (fun σ_1 H locs eσ_1 w => ?_)
  have hf := lt_e eσ_1 hf
  refine lv_aload_n hx hb d_BH_haveTurn_167 rfl (lv_at hl 0 rfl) ?_
  refine xg_0_book C w k507 d_BH_haveTurn_168 ?_
  refine lv_sipush (v := 999) hx hb d_BH_haveTurn_171 (by decide) ?_
  refine lv_aload_n hx hb d_BH_haveTurn_174 rfl (lv_at hl 0 rfl) ?_
  refine xg_0_book C w k507 d_BH_haveTurn_175 ?_
  refine xg_14_crowd C w k344 d_BH_haveTurn_178 ?_
  refine lv_aload_n hx hb d_BH_haveTurn_181 rfl (lv_at hl 0 rfl) ?_
  refine xg_0_turn C w k509 d_BH_haveTurn_182 ?_
  refine lv_iload_n hx hb d_BH_haveTurn_185 rfl (lv_at hl 2 rfl) ?_
  obtain ⟨r_3, h_2, hf⟩ := bp_e hf
  refine k_callV (As := [.int x2]) (rest := [.int (sI σ_1 20), .int 999, .ref (q 14)]) C w (c_Turn_brings_2 (q := q) h_2) cv_Turn_brings k960 (xr_23 C w) (by decide) hl.1 rfl (Nat.le_of_ble_eq_true rfl) d_BH_haveTurn_186 (fun H locs w => ?_)
  show WK p l e s m av below meth c 4 g (wX g q) A none σ2 H locs (F0 m 189 ls [.int r_3, .int (sI σ_1 20), .int 999, .ref (q 14)])
  refine lv_iadd hx hb d_BH_haveTurn_189 ?_
  refine r_min C hl.1 (by omega) (Nat.le_of_ble_eq_true rfl) k961 d_BH_haveTurn_190 ?_
  refine xp_14_crowd C w k344 d_BH_haveTurn_193 (fun σ_4 H locs eσ_4 w => ?_)
  have hf := lt_e eσ_4 hf
  obtain ⟨x_5, ex_5⟩ : ∃ y : Int32, y = (x3 + 1) := ⟨_, rfl⟩
  have hf := lt_e ex_5 hf
  refine lv_iinc (v := x_5) (lv' := [(3, .int x_5), (0, .ref (q 0)), (1, .int x1), (2, .int x2)]) hx hb d_BH_haveTurn_196 hl (k := 3) rfl (by rw [ex_5]; rfl) (by decide) rfl (fun ls hl => ?_)
  refine lv_goto (tgt := 4) hx hb d_BH_haveTurn_199 (by decide) ?_
  exact hk4 x1 x2 x_5 σ_4 _ _ _ hf w (lv_sub hl [1, 2, 3, 0] rfl)
set_option maxHeartbeats 4000000 in
set_option maxRecDepth 20000 in
theorem t_BH_haveTurn_93 {σ2 : St} (C : Cx g A p s m av meth c prog_1_method_42_code 6 "BellHammer" none) {k4 : Int32 → Int32 → Int32 → St → Option (St)} (hk4 : ∀ (x1 : Int32) (x2 : Int32) (x3 : Int32) (σ : St) (H : Heap) (locs : List Loc) (ls : Array Slot), k4 x1 x2 x3 σ = some σ2 → Wd g (wX g q) A s σ H locs → lv_has ls 6 [(0, .ref (q 0)), (1, .int x1), (2, .int x2), (3, .int x3)] → WK p l e s m av below meth c 4 g (wX g q) A none σ2 H locs (F0 m 4 ls []))  {x1 : Int32} {x3 : Int32} {t0 : Int32} {σ : St} {H : Heap} {locs : List Loc} {ls : Array Slot} (hf : f_BH_haveTurn_93  k4 x1 x3 t0 σ = some σ2) (w : Wd g (wX g q) A s σ H locs) (hl : lv_has ls 6 [(0, .ref (q 0)), (1, .int x1), (3, .int x3)]) : WK p l e s m av below meth c 4 g (wX g q) A none σ2 H locs (F0 m 93 ls [.int t0]) := by
  obtain ⟨hx, hb, hml, hown, hts, hK, hA, hZ, hlocks, hr, hN⟩ := id C
  unfold f_BH_haveTurn_93 at hf
  refine lv_istore (lv' := [(4, .int t0), (0, .ref (q 0)), (1, .int x1), (3, .int x3)]) hx hb d_BH_haveTurn_93 hl (by decide) rfl (fun ls hl => ?_)
  refine lv_aload_n hx hb d_BH_haveTurn_95 rfl (lv_at hl 1 rfl) ?_
  refine xg_0_book C w k507 d_BH_haveTurn_96 ?_
  refine lv_aload_n hx hb d_BH_haveTurn_99 rfl (lv_at hl 1 rfl) ?_
  refine xg_0_turn C w k509 d_BH_haveTurn_100 ?_
  refine xg_23_aim C w k406 d_BH_haveTurn_103 ?_
  refine lv_iconst (v := 1) hx hb d_BH_haveTurn_106 (by decide) ?_
  refine lv_iadd hx hb d_BH_haveTurn_107 ?_
  obtain ⟨r_2, σ_3, h_1, hf⟩ := bd_e hf
  refine k_callV (As := [.int ((sI σ 26) + 1)]) (rest := []) C w (c_Book_draw (q := q) h_1) cv_Book_draw k948 (xr_14 C w) (by decide) hl.1 rfl (Nat.le_of_ble_eq_true rfl) d_BH_haveTurn_108 (fun H locs w => ?_)
  show WK p l e s m av below meth c 4 g (wX g q) A none σ2 H locs (F0 m 111 ls [.int r_2])
  refine lv_istore (lv' := [(5, .int r_2), (4, .int t0), (0, .ref (q 0)), (1, .int x1), (3, .int x3)]) hx hb d_BH_haveTurn_111 hl (by decide) rfl (fun ls hl => ?_)
  refine lv_aload_n hx hb d_BH_haveTurn_113 rfl (lv_at hl 2 rfl) ?_
  refine xg_0_turn C w k509 d_BH_haveTurn_114 ?_
  refine lv_iload_n hx hb d_BH_haveTurn_117 rfl (lv_at hl 4 rfl) ?_
  refine lv_iload hx hb d_BH_haveTurn_118 (lv_at hl 0 rfl) ?_
  refine lv_iload hx hb d_BH_haveTurn_120 (lv_at hl 1 rfl) ?_
  obtain ⟨r_5, h_4, hf⟩ := bp_e hf
  refine k_callV (As := [.int x3, .int r_2, .int t0]) (rest := []) C w (c_Turn_height (q := q) h_4) cv_Turn_height k766 (xr_23 C w) (by decide) hl.1 rfl (Nat.le_of_ble_eq_true rfl) d_BH_haveTurn_122 (fun H locs w => ?_)
  show WK p l e s m av below meth c 4 g (wX g q) A none σ2 H locs (F0 m 125 ls [.int r_5])
  refine lv_istore_n (lv' := [(2, .int r_5), (5, .int r_2), (4, .int t0), (0, .ref (q 0)), (1, .int x1), (3, .int x3)]) hx hb d_BH_haveTurn_125 rfl hl (by decide) rfl (fun ls hl => ?_)
  refine lv_aload_n hx hb d_BH_haveTurn_126 rfl (lv_at hl 3 rfl) ?_
  refine xg_0_book C w k507 d_BH_haveTurn_127 ?_
  refine lv_iload_n hx hb d_BH_haveTurn_130 rfl (lv_at hl 4 rfl) ?_
  refine lv_iload hx hb d_BH_haveTurn_131 (lv_at hl 1 rfl) ?_
  refine lv_iload hx hb d_BH_haveTurn_133 (lv_at hl 2 rfl) ?_
  refine lv_iload_n hx hb d_BH_haveTurn_135 rfl (lv_at hl 0 rfl) ?_
  obtain ⟨σ_7, h_6, hf⟩ := bp_e hf
  refine k_callV (As := [.int x1, .int r_2, .int t0, .int r_5]) (rest := []) C w (c_Book_keep (q := q) h_6) cv_Book_keep k955 (xr_14 C w) (by decide) hl.1 rfl (Nat.le_of_ble_eq_true rfl) d_BH_haveTurn_136 (fun H locs w => ?_)
  show WK p l e s m av below meth c 4 g (wX g q) A none σ2 H locs (F0 m 139 ls [])
  refine lv_aload_n hx hb d_BH_haveTurn_139 rfl (lv_at hl 3 rfl) ?_
  refine xg_0_book C w k507 d_BH_haveTurn_140 ?_
  refine lv_dup hx hb d_BH_haveTurn_143 rfl ?_
  refine xg_14_rings C w k346 d_BH_haveTurn_144 ?_
  refine lv_aload_n hx hb d_BH_haveTurn_147 rfl (lv_at hl 3 rfl) ?_
  refine xg_0_turn C w k509 d_BH_haveTurn_148 ?_
  refine lv_iload_n hx hb d_BH_haveTurn_151 rfl (lv_at hl 0 rfl) ?_
  obtain ⟨r_9, h_8, hf⟩ := bp_e hf
  refine k_callV (As := [.int r_5]) (rest := [.int (sI σ_7 21), .ref (q 14)]) C w (c_Turn_isRing_2 (q := q) h_8) cv_Turn_isRing k959 (xr_23 C w) (by decide) hl.1 rfl (Nat.le_of_ble_eq_true rfl) d_BH_haveTurn_152 (fun H locs w => ?_)
  show WK p l e s m av below meth c 4 g (wX g q) A none σ2 H locs (F0 m 155 ls [.int r_9, .int (sI σ_7 21), .ref (q 14)])
  refine lv_if_eq (tgt := 162) hx hb d_BH_haveTurn_155 (by decide) (fun cd => ?_) (fun cd => ?_)
  · have hf := it_e cd hf
    refine lv_iconst (v := 0) hx hb d_BH_haveTurn_162 (by decide) ?_
    exact t_BH_haveTurn_163 C hk4 hf w (lv_sub hl [3, 4, 0, 5] rfl)
  · have hf := if_e cd hf
    refine lv_iconst (v := 1) hx hb d_BH_haveTurn_158 (by decide) ?_
    refine lv_goto (tgt := 163) hx hb d_BH_haveTurn_159 (by decide) ?_
    exact t_BH_haveTurn_163 C hk4 hf w (lv_sub hl [3, 4, 0, 5] rfl)
set_option maxHeartbeats 4000000 in
set_option maxRecDepth 20000 in
theorem t_BH_haveTurn_4b {σ2 : St} (C : Cx g A p s m av meth c prog_1_method_42_code 6 "BellHammer" none) {k4 : Int32 → Int32 → Int32 → St → Option (St)} (hk4 : ∀ (x1 : Int32) (x2 : Int32) (x3 : Int32) (σ : St) (H : Heap) (locs : List Loc) (ls : Array Slot), k4 x1 x2 x3 σ = some σ2 → Wd g (wX g q) A s σ H locs → lv_has ls 6 [(0, .ref (q 0)), (1, .int x1), (2, .int x2), (3, .int x3)] → WK p l e s m av below meth c 4 g (wX g q) A none σ2 H locs (F0 m 4 ls []))  {x1 : Int32} {x2 : Int32} {x3 : Int32} {σ : St} {H : Heap} {locs : List Loc} {ls : Array Slot} (hf : f_BH_haveTurn_4b  k4 x1 x2 x3 σ = some σ2) (w : Wd g (wX g q) A s σ H locs) (hl : lv_has ls 6 [(0, .ref (q 0)), (1, .int x1), (2, .int x2), (3, .int x3)]) : WK p l e s m av below meth c 4 g (wX g q) A none σ2 H locs (F0 m 4 ls []) := by
  obtain ⟨hx, hb, hml, hown, hts, hK, hA, hZ, hlocks, hr, hN⟩ := id C
  unfold f_BH_haveTurn_4b at hf
  refine lv_iload_n hx hb d_BH_haveTurn_4 rfl (lv_at hl 3 rfl) ?_
  refine lv_iconst (v := 4) hx hb d_BH_haveTurn_5 (by decide) ?_
  refine lv_icmp_ge (tgt := 202) hx hb d_BH_haveTurn_6 (by decide) (fun cd => ?_) (fun cd => ?_)
  · have hf := it_e cd hf
    cases some_e hf
    exact k_vret C w d_BH_haveTurn_202
  · have hf := if_e cd hf
    refine lv_aload_n hx hb d_BH_haveTurn_9 rfl (lv_at hl 0 rfl) ?_
    refine xg_0_turn C w k509 d_BH_haveTurn_10 ?_
    refine lv_iload_n hx hb d_BH_haveTurn_13 rfl (lv_at hl 3 rfl) ?_
    refine lv_iload_n hx hb d_BH_haveTurn_14 rfl (lv_at hl 2 rfl) ?_
    obtain ⟨r_2, h_1, hf⟩ := bp_e hf
    refine k_callV (As := [.int x3, .int x2]) (rest := []) C w (c_Turn_goesOn_2 (q := q) h_1) cv_Turn_goesOn k946 (xr_23 C w) (by decide) hl.1 rfl (Nat.le_of_ble_eq_true rfl) d_BH_haveTurn_15 (fun H locs w => ?_)
    show WK p l e s m av below meth c 4 g (wX g q) A none σ2 H locs (F0 m 18 ls [.int r_2])
    refine lv_if_eq (tgt := 202) hx hb d_BH_haveTurn_18 (by decide) (fun cd => ?_) (fun cd => ?_)
    · have hf := it_e cd hf
      cases some_e hf
      exact k_vret C w d_BH_haveTurn_202
    · have hf := if_e cd hf
      refine lv_aload_n hx hb d_BH_haveTurn_21 rfl (lv_at hl 0 rfl) ?_
      refine xg_0_showman C w k508 d_BH_haveTurn_22 ?_
      refine lv_aload_n hx hb d_BH_haveTurn_25 rfl (lv_at hl 0 rfl) ?_
      refine xg_0_book C w k507 d_BH_haveTurn_26 ?_
      refine xg_14_crowd C w k344 d_BH_haveTurn_29 ?_
      refine lv_iload_n hx hb d_BH_haveTurn_32 rfl (lv_at hl 3 rfl) ?_
      refine lv_iload_n hx hb d_BH_haveTurn_33 rfl (lv_at hl 2 rfl) ?_
      refine lv_aload_n hx hb d_BH_haveTurn_34 rfl (lv_at hl 0 rfl) ?_
      refine xg_0_book C w k507 d_BH_haveTurn_35 ?_
      refine xg_14_rings C w k346 d_BH_haveTurn_38 ?_
      obtain ⟨σ_4, h_3, hf⟩ := bp_e hf
      refine k_callV (As := [.int (sI σ 20), .int x3, .int x2, .int (sI σ 21)]) (rest := []) C w (c_Showman_look (q := q) h_3) cv_Showman_look k794 (xr_20 C w) (by decide) hl.1 rfl (Nat.le_of_ble_eq_true rfl) d_BH_haveTurn_41 (fun H locs w => ?_)
      show WK p l e s m av below meth c 4 g (wX g q) A none σ2 H locs (F0 m 44 ls [])
      refine lv_aload_n hx hb d_BH_haveTurn_44 rfl (lv_at hl 0 rfl) ?_
      refine xg_0_showman C w k508 d_BH_haveTurn_45 ?_
      refine lv_aload_n hx hb d_BH_haveTurn_48 rfl (lv_at hl 0 rfl) ?_
      refine xg_0_turn C w k509 d_BH_haveTurn_49 ?_
      refine xg_23_lady C w k412 d_BH_haveTurn_52 ?_
      refine lv_aload_n hx hb d_BH_haveTurn_55 rfl (lv_at hl 0 rfl) ?_
      refine xg_0_turn C w k509 d_BH_haveTurn_56 ?_
      refine lv_iload_n hx hb d_BH_haveTurn_59 rfl (lv_at hl 3 rfl) ?_
      obtain ⟨r_6, h_5, hf⟩ := bp_e hf
      refine k_callV (As := [.int x3]) (rest := [.int (sI σ_4 30), .ref (q 20)]) C w (c_Turn_coinsBehind_2 (q := q) h_5) cv_Turn_coinsBehind k947 (xr_23 C w) (by decide) hl.1 rfl (Nat.le_of_ble_eq_true rfl) d_BH_haveTurn_60 (fun H locs w => ?_)
      show WK p l e s m av below meth c 4 g (wX g q) A none σ2 H locs (F0 m 63 ls [.int r_6, .int (sI σ_4 30), .ref (q 20)])
      obtain ⟨σ_8, h_7, hf⟩ := bp_e hf
      refine k_callV (As := [.int (sI σ_4 30), .int r_6]) (rest := []) C w (c_Showman_lookAt (q := q) h_7) cv_Showman_lookAt k798 (xr_20 C w) (by decide) hl.1 rfl (Nat.le_of_ble_eq_true rfl) d_BH_haveTurn_63 (fun H locs w => ?_)
      show WK p l e s m av below meth c 4 g (wX g q) A none σ2 H locs (F0 m 66 ls [])
      refine lv_aload_n hx hb d_BH_haveTurn_66 rfl (lv_at hl 0 rfl) ?_
      refine xg_0_showman C w k508 d_BH_haveTurn_67 ?_
      refine lv_aload_n hx hb d_BH_haveTurn_70 rfl (lv_at hl 0 rfl) ?_
      refine xg_0_fair C w k511 d_BH_haveTurn_71 ?_
      obtain ⟨r_10, σ_11, h_9, hf⟩ := bd_e hf
      refine k_callV (As := [.ref (q 34)]) (rest := []) C w (c_Showman_rulesThatHold (q := q) h_9) cv_Showman_rulesThatHold k802 (xr_20 C w) (by decide) hl.1 rfl (Nat.le_of_ble_eq_true rfl) d_BH_haveTurn_74 (fun H locs w => ?_)
      show WK p l e s m av below meth c 4 g (wX g q) A none σ2 H locs (F0 m 77 ls [.int r_10])
      refine lv_aload_n hx hb d_BH_haveTurn_77 rfl (lv_at hl 0 rfl) ?_
      refine xg_0_book C w k507 d_BH_haveTurn_78 ?_
      refine xg_14_inForce C w k340 d_BH_haveTurn_81 ?_
      refine lv_iand hx hb d_BH_haveTurn_84 ?_
      refine lv_if_eq (tgt := 92) hx hb d_BH_haveTurn_85 (by decide) (fun cd => ?_) (fun cd => ?_)
      · have hf := it_e cd hf
        refine lv_iconst (v := 0) hx hb d_BH_haveTurn_92 (by decide) ?_
        exact t_BH_haveTurn_93 C hk4 hf w (lv_sub hl [0, 1, 3] rfl)
      · have hf := if_e cd hf
        refine lv_iconst (v := 1) hx hb d_BH_haveTurn_88 (by decide) ?_
        refine lv_goto (tgt := 93) hx hb d_BH_haveTurn_89 (by decide) ?_
        exact t_BH_haveTurn_93 C hk4 hf w (lv_sub hl [0, 1, 3] rfl)
set_option maxHeartbeats 4000000 in
set_option maxRecDepth 20000 in
theorem t_BH_haveTurn_4 {σ2 : St} (C : Cx g A p s m av meth c prog_1_method_42_code 6 "BellHammer" none)  : ∀ (n : Nat) (x1 : Int32) (x2 : Int32) (x3 : Int32) (σ : St) (H : Heap) (locs : List Loc) (ls : Array Slot), f_BH_haveTurn_4   n x1 x2 x3 σ = some σ2 → Wd g (wX g q) A s σ H locs → lv_has ls 6 [(0, .ref (q 0)), (1, .int x1), (2, .int x2), (3, .int x3)] → WK p l e s m av below meth c 4 g (wX g q) A none σ2 H locs (F0 m 4 ls []) := by
  intro n
  induction n with
  | zero => intro x1 x2 x3 σ H locs ls hf; exact absurd hf (by intro z; cases z)
  | succ n ih => intro x1 x2 x3 σ H locs ls hf w hl; exact t_BH_haveTurn_4b C  ih hf w hl
set_option maxHeartbeats 4000000 in
set_option maxRecDepth 20000 in
theorem c_BH_haveTurn {l : Launch} {g : GX} {q : Nat → Nat} {x1 : Int32}  {σ : St} {σ2 : St} (hf : f_BH_haveTurn  x1 σ = some σ2) : KK l y_BH_haveTurn prog_1_method_42_code 6 none 4 g (wX g q) σ [.ref (q 0), .int x1] none (wX g q) σ2 := by
  refine KK_of (plainFor_of_name (by decide)) (Nat.le_of_ble_eq_true rfl) (fun p e s m below meth c A ls C w hl => ?_)
  have hl : lv_has ls 6 [(0, .ref (q 0)), (1, .int x1)] := hl
  obtain ⟨hx, hb, hml, hown, hts, hK, hA, hZ, hlocks, hr, hN⟩ := id C
  unfold f_BH_haveTurn at hf
  refine lv_iconst (v := 0) hx hb d_BH_haveTurn_0 (by decide) ?_
  refine lv_istore_n (lv' := [(2, .int 0), (0, .ref (q 0)), (1, .int x1)]) hx hb d_BH_haveTurn_1 rfl hl (by decide) rfl (fun ls hl => ?_)
  refine lv_iconst (v := 0) hx hb d_BH_haveTurn_2 (by decide) ?_
  refine lv_istore_n (lv' := [(3, .int 0), (2, .int 0), (0, .ref (q 0)), (1, .int x1)]) hx hb d_BH_haveTurn_3 rfl hl (by decide) rfl (fun ls hl => ?_)
  exact t_BH_haveTurn_4 C  FU x1 0 0 σ _ _ _ hf w (lv_sub hl [2, 3, 1, 0] rfl)
def f_BH_night_51b (k51 : Int32 → Int32 → St → Option (Int32 × St)) (x1 : Int32) (x2 : Int32) (σ : St) : Option (Int32 × St) :=
  if (sI σ 54) ≤ x2 then
    some (((sI σ 18) - x1), σ)
  else
    bp (f_Turn_load x2 σ) fun σ_2 =>
    bp (f_BH_haveTurn x2 σ_2) fun σ_4 =>
    lt ((x2 + 1)) fun x_5 =>
    k51 x1 x_5 σ_4
def f_BH_night_51 : Nat → Int32 → Int32 → St → Option (Int32 × St)
  | 0 => fun _ _ _ => none
  | n + 1 => f_BH_night_51b   (f_BH_night_51   n)
def f_BH_night (σ : St) : Option (Int32 × St) :=
  if (sI σ 17) < 999 then
    lt ((sI σ 18)) fun x_1 =>
    bp (f_Book_startNight (sA σ 25 (4 : Int32).toNatClampNeg) σ) fun σ_3 =>
    f_BH_night_51 FU x_1 0 σ_3
  else
    lt (uA σ 30 (upd (sA σ 30) (2 : Int32).toNatClampNeg ((sA σ 30 (2 : Int32).toNatClampNeg) + 1))) fun σ_4 =>
    some ((-1), σ_4)
set_option maxHeartbeats 4000000 in
set_option maxRecDepth 20000 in
theorem t_BH_night_51b {r : Int32} {σ2 : St} (C : Cx g A p s m av meth c prog_1_method_19_code 3 "BellHammer" (some .int)) {k51 : Int32 → Int32 → St → Option (Int32 × St)} (hk51 : ∀ (x1 : Int32) (x2 : Int32) (σ : St) (H : Heap) (locs : List Loc) (ls : Array Slot), k51 x1 x2 σ = some (r, σ2) → Wd g (wX g q) A s σ H locs → lv_has ls 3 [(0, .ref (q 0)), (1, .int x1), (2, .int x2)] → WK p l e s m av below meth c 5 g (wX g q) A (some (.int r)) σ2 H locs (F0 m 51 ls []))  {x1 : Int32} {x2 : Int32} {σ : St} {H : Heap} {locs : List Loc} {ls : Array Slot} (hf : f_BH_night_51b  k51 x1 x2 σ = some (r, σ2)) (w : Wd g (wX g q) A s σ H locs) (hl : lv_has ls 3 [(0, .ref (q 0)), (1, .int x1), (2, .int x2)]) : WK p l e s m av below meth c 5 g (wX g q) A (some (.int r)) σ2 H locs (F0 m 51 ls []) := by
  obtain ⟨hx, hb, hml, hown, hts, hK, hA, hZ, hlocks, hr, hN⟩ := id C
  unfold f_BH_night_51b at hf
  refine lv_iload_n hx hb d_BH_night_51 rfl (lv_at hl 2 rfl) ?_
  refine lv_aload_n hx hb d_BH_night_52 rfl (lv_at hl 0 rfl) ?_
  refine xg_0_fair C w k511 d_BH_night_53 ?_
  refine xg_34_triers C w k274 d_BH_night_56 ?_
  refine lv_icmp_ge (tgt := 92) hx hb d_BH_night_59 (by decide) (fun cd => ?_) (fun cd => ?_)
  · have hf := it_e cd hf
    refine lv_aload_n hx hb d_BH_night_92 rfl (lv_at hl 0 rfl) ?_
    refine xg_0_book C w k507 d_BH_night_93 ?_
    refine xg_14_takings C w k338 d_BH_night_96 ?_
    refine lv_iload_n hx hb d_BH_night_99 rfl (lv_at hl 1 rfl) ?_
    refine lv_isub hx hb d_BH_night_100 ?_
    obtain ⟨rfl, rfl⟩ := some2_e hf
    exact k_iret C w d_BH_night_101
  · have hf := if_e cd hf
    refine lv_aload_n hx hb d_BH_night_62 rfl (lv_at hl 0 rfl) ?_
    refine xg_0_turn C w k509 d_BH_night_63 ?_
    refine lv_aload_n hx hb d_BH_night_66 rfl (lv_at hl 0 rfl) ?_
    refine xg_0_fair C w k511 d_BH_night_67 ?_
    refine lv_iload_n hx hb d_BH_night_70 rfl (lv_at hl 2 rfl) ?_
    refine lv_aload_n hx hb d_BH_night_71 rfl (lv_at hl 0 rfl) ?_
    refine xg_0_book C w k507 d_BH_night_72 ?_
    refine xg_14_now C w k342 d_BH_night_75 ?_
    obtain ⟨σ_2, h_1, hf⟩ := bp_e hf
    refine k_callV (As := [.ref (q 34), .int x2, .ref (q 15)]) (rest := []) C w (c_Turn_load (q := q) h_1) cv_Turn_load k760 (xr_23 C w) (by decide) hl.1 rfl (Nat.le_of_ble_eq_true rfl) d_BH_night_78 (fun H locs w => ?_)
    show WK p l e s m av below meth c 5 g (wX g q) A (some (.int r)) σ2 H locs (F0 m 81 ls [])
    refine lv_aload_n hx hb d_BH_night_81 rfl (lv_at hl 0 rfl) ?_
    refine lv_iload_n hx hb d_BH_night_82 rfl (lv_at hl 2 rfl) ?_
    obtain ⟨σ_4, h_3, hf⟩ := bp_e hf
    refine k_callV (As := [.int x2]) (rest := []) C w (c_BH_haveTurn (q := q) h_3) cv_BH_haveTurn k942 (xr_0 C w) (by decide) hl.1 rfl (Nat.le_of_ble_eq_true rfl) d_BH_night_83 (fun H locs w => ?_)
    show WK p l e s m av below meth c 5 g (wX g q) A (some (.int r)) σ2 H locs (F0 m 86 ls [])
    obtain ⟨x_5, ex_5⟩ : ∃ y : Int32, y = (x2 + 1) := ⟨_, rfl⟩
    have hf := lt_e ex_5 hf
    refine lv_iinc (v := x_5) (lv' := [(2, .int x_5), (0, .ref (q 0)), (1, .int x1)]) hx hb d_BH_night_86 hl (k := 2) rfl (by rw [ex_5]; rfl) (by decide) rfl (fun ls hl => ?_)
    refine lv_goto (tgt := 51) hx hb d_BH_night_89 (by decide) ?_
    exact hk51 x1 x_5 σ_4 _ _ _ hf w (lv_sub hl [1, 2, 0] rfl)
set_option maxHeartbeats 4000000 in
set_option maxRecDepth 20000 in
theorem t_BH_night_51 {r : Int32} {σ2 : St} (C : Cx g A p s m av meth c prog_1_method_19_code 3 "BellHammer" (some .int))  : ∀ (n : Nat) (x1 : Int32) (x2 : Int32) (σ : St) (H : Heap) (locs : List Loc) (ls : Array Slot), f_BH_night_51   n x1 x2 σ = some (r, σ2) → Wd g (wX g q) A s σ H locs → lv_has ls 3 [(0, .ref (q 0)), (1, .int x1), (2, .int x2)] → WK p l e s m av below meth c 5 g (wX g q) A (some (.int r)) σ2 H locs (F0 m 51 ls []) := by
  intro n
  induction n with
  | zero => intro x1 x2 σ H locs ls hf; exact absurd hf (by intro z; cases z)
  | succ n ih => intro x1 x2 σ H locs ls hf w hl; exact t_BH_night_51b C  ih hf w hl
set_option maxHeartbeats 4000000 in
set_option maxRecDepth 20000 in
theorem c_BH_night {l : Launch} {g : GX} {q : Nat → Nat}  {σ : St} {r : Int32} {σ2 : St} (hf : f_BH_night   σ = some (r, σ2)) : KK l y_BH_night prog_1_method_19_code 3 (some .int) 5 g (wX g q) σ [.ref (q 0)] (some (.int r)) (wX g q) σ2 := by
  refine KK_of (plainFor_of_name (by decide)) (Nat.le_of_ble_eq_true rfl) (fun p e s m below meth c A ls C w hl => ?_)
  have hl : lv_has ls 3 [(0, .ref (q 0))] := hl
  obtain ⟨hx, hb, hml, hown, hts, hK, hA, hZ, hlocks, hr, hN⟩ := id C
  unfold f_BH_night at hf
  refine lv_aload_n hx hb d_BH_night_0 rfl (lv_at hl 0 rfl) ?_
  refine xg_0_book C w k507 d_BH_night_1 ?_
  refine xg_14_nights C w k336 d_BH_night_4 ?_
  refine lv_sipush (v := 999) hx hb d_BH_night_7 (by decide) ?_
  refine lv_icmp_lt (tgt := 25) hx hb d_BH_night_10 (by decide) (fun cd => ?_) (fun cd => ?_)
  · have hf := it_e cd hf
    refine lv_aload_n hx hb d_BH_night_25 rfl (lv_at hl 0 rfl) ?_
    refine xg_0_book C w k507 d_BH_night_26 ?_
    refine xg_14_takings C w k338 d_BH_night_29 ?_
    refine lv_topi (fun x_1 ex_1 => ?_)
    have hf := lt_e ex_1 hf
    refine lv_istore_n (lv' := [(1, .int x_1), (0, .ref (q 0))]) hx hb d_BH_night_32 rfl hl (by decide) rfl (fun ls hl => ?_)
    refine lv_aload_n hx hb d_BH_night_33 rfl (lv_at hl 1 rfl) ?_
    refine xg_0_book C w k507 d_BH_night_34 ?_
    refine lv_aload_n hx hb d_BH_night_37 rfl (lv_at hl 1 rfl) ?_
    refine xg_0_fair C w k511 d_BH_night_38 ?_
    refine xg_34_settings C w k261 d_BH_night_41 ?_
    refine lv_iconst (v := 4) hx hb d_BH_night_44 (by decide) ?_
    refine xl_39 C w (by decide) d_BH_night_45 ?_
    obtain ⟨σ_3, h_2, hf⟩ := bp_e hf
    refine k_callV (As := [.int (sA σ 25 (4 : Int32).toNatClampNeg)]) (rest := []) C w (c_Book_startNight (q := q) h_2) cv_Book_startNight k934 (xr_14 C w) (by decide) hl.1 rfl (Nat.le_of_ble_eq_true rfl) d_BH_night_46 (fun H locs w => ?_)
    show WK p l e s m _ below meth c 5 g (wX g q) A (some (.int r)) σ2 H locs (F0 m 49 ls [])
    refine lv_iconst (v := 0) hx hb d_BH_night_49 (by decide) ?_
    refine lv_istore_n (lv' := [(2, .int 0), (1, .int x_1), (0, .ref (q 0))]) hx hb d_BH_night_50 rfl hl (by decide) rfl (fun ls hl => ?_)
    exact t_BH_night_51 C  FU x_1 0 σ_3 _ _ _ hf w (lv_sub hl [2, 1, 0] rfl)
  · have hf := if_e cd hf
    refine lv_aload_n hx hb d_BH_night_13 rfl (lv_at hl 0 rfl) ?_
    refine xg_0_refused C w k517 d_BH_night_14 ?_
    refine lv_iconst (v := 2) hx hb d_BH_night_17 (by decide) ?_
    refine lv_dup2_11 hx hb d_BH_night_18 rfl rfl ?_
    refine xl_44 C w (by decide) d_BH_night_19 ?_
    refine lv_iconst (v := 1) hx hb d_BH_night_20 (by decide) ?_
    refine lv_iadd hx hb d_BH_night_21 ?_
    refine xs_44 C w (by decide) d_BH_night_22 (fun σ_4 H locs eσ_4 w => ?_)
    have hf := lt_e eσ_4 hf
    refine lv_iconst (v := (-1)) hx hb d_BH_night_23 (by decide) ?_
    obtain ⟨rfl, rfl⟩ := some2_e hf
    exact k_iret C w d_BH_night_24
def f_Book_isInForce (x1 : Int32) (σ : St) : Option (Int32) :=
  if (((sI σ 19) >>> (x1 &&& 31)) &&& 1) = 1 then
    some 1
  else
    some 0
set_option maxHeartbeats 4000000 in
set_option maxRecDepth 20000 in
theorem c_Book_isInForce {l : Launch} {g : GX} {q : Nat → Nat} {x1 : Int32}  {σ : St} {r : Int32} (hf : f_Book_isInForce  x1 σ = some r) : KK l y_Book_isInForce prog_2_method_5_code 2 (some .boolean) 0 g (wX g q) σ [.ref (q 14), .int x1] (some (.int r)) (wX g q) σ := by
  refine KK_of (plainFor_of_name (by decide)) (Nat.le_of_ble_eq_true rfl) (fun p e s m below meth c A ls C w hl => ?_)
  have hl : lv_has ls 2 [(0, .ref (q 14)), (1, .int x1)] := hl
  obtain ⟨hx, hb, hml, hown, hts, hK, hA, hZ, hlocks, hr, hN⟩ := id C
  unfold f_Book_isInForce at hf
  refine lv_aload_n hx hb d_Book_isInForce_0 rfl (lv_at hl 0 rfl) ?_
  refine xg_14_inForce C w k339 d_Book_isInForce_1 ?_
  refine lv_iload_n hx hb d_Book_isInForce_4 rfl (lv_at hl 1 rfl) ?_
  refine lv_ishr hx hb d_Book_isInForce_5 ?_
  refine lv_iconst (v := 1) hx hb d_Book_isInForce_6 (by decide) ?_
  refine lv_iand hx hb d_Book_isInForce_7 ?_
  refine lv_iconst (v := 1) hx hb d_Book_isInForce_8 (by decide) ?_
  refine lv_icmp_ne (tgt := 16) hx hb d_Book_isInForce_9 (by decide) (fun cd => ?_) (fun cd => ?_)
  · have hf := if_e cd hf
    refine lv_iconst (v := 0) hx hb d_Book_isInForce_16 (by decide) ?_
    cases some_e hf
    exact k_zret C w (by decide) d_Book_isInForce_17
  · have hf := it_e cd hf
    refine lv_iconst (v := 1) hx hb d_Book_isInForce_12 (by decide) ?_
    refine lv_goto (tgt := 17) hx hb d_Book_isInForce_13 (by decide) ?_
    cases some_e hf
    exact k_zret C w (by decide) d_Book_isInForce_17
def f_Book_turnRule (x1 : Int32) (σ : St) : Option (St) :=
  bp (f_Book_addAct 3 (sI σ 19) σ) fun σ_2 =>
  lt (uI σ_2 19 ((sI σ_2 19) ^^^ (1 <<< (x1 &&& 31)))) fun σ_3 =>
  some σ_3
set_option maxHeartbeats 4000000 in
set_option maxRecDepth 20000 in
theorem c_Book_turnRule {l : Launch} {g : GX} {q : Nat → Nat} {x1 : Int32}  {σ : St} {σ2 : St} (hf : f_Book_turnRule  x1 σ = some σ2) : KK l y_Book_turnRule prog_2_method_6_code 2 none 2 g (wX g q) σ [.ref (q 14), .int x1] none (wX g q) σ2 := by
  refine KK_of (plainFor_of_name (by decide)) (Nat.le_of_ble_eq_true rfl) (fun p e s m below meth c A ls C w hl => ?_)
  have hl : lv_has ls 2 [(0, .ref (q 14)), (1, .int x1)] := hl
  obtain ⟨hx, hb, hml, hown, hts, hK, hA, hZ, hlocks, hr, hN⟩ := id C
  unfold f_Book_turnRule at hf
  refine lv_aload_n hx hb d_Book_turnRule_0 rfl (lv_at hl 0 rfl) ?_
  refine lv_iconst (v := 3) hx hb d_Book_turnRule_1 (by decide) ?_
  refine lv_aload_n hx hb d_Book_turnRule_2 rfl (lv_at hl 0 rfl) ?_
  refine xg_14_inForce C w k339 d_Book_turnRule_3 ?_
  obtain ⟨σ_2, h_1, hf⟩ := bp_e hf
  refine k_callV (As := [.int 3, .int (sI σ 19)]) (rest := []) C w (c_Book_addAct (q := q) h_1) cv_Book_addAct k938 (xr_14 C w) (by decide) hl.1 rfl (Nat.le_of_ble_eq_true rfl) d_Book_turnRule_6 (fun H locs w => ?_)
  show WK p l e s m _ below meth c 2 g (wX g q) A none σ2 H locs (F0 m 9 ls [])
  refine lv_aload_n hx hb d_Book_turnRule_9 rfl (lv_at hl 0 rfl) ?_
  refine lv_dup hx hb d_Book_turnRule_10 rfl ?_
  refine xg_14_inForce C w k339 d_Book_turnRule_11 ?_
  refine lv_iconst (v := 1) hx hb d_Book_turnRule_14 (by decide) ?_
  refine lv_iload_n hx hb d_Book_turnRule_15 rfl (lv_at hl 1 rfl) ?_
  refine lv_ishl hx hb d_Book_turnRule_16 ?_
  refine lv_ixor hx hb d_Book_turnRule_17 ?_
  refine xp_14_inForce C w k339 d_Book_turnRule_18 (fun σ_3 H locs eσ_3 w => ?_)
  have hf := lt_e eσ_3 hf
  cases some_e hf
  exact k_vret C w d_Book_turnRule_21
def f_BH_rule_27 (σ : St) : Option (Int32 × St) :=
  lt (uA σ 30 (upd (sA σ 30) (3 : Int32).toNatClampNeg ((sA σ 30 (3 : Int32).toNatClampNeg) + 1))) fun σ_1 =>
  some (0, σ_1)
def f_BH_rule (x1 : Int32) (x2 : Int32) (σ : St) : Option (Int32 × St) :=
  if x1 < 0 then
    f_BH_rule_27 σ
  else
    if (sI σ 55) ≤ x1 then
      f_BH_rule_27 σ
    else
      bp (f_Book_isInForce x1 σ) fun r_2 =>
      if r_2 = x2 then
        f_BH_rule_27 σ
      else
        bp (f_Book_turnRule x1 σ) fun σ_4 =>
        some (1, σ_4)
set_option maxHeartbeats 4000000 in
set_option maxRecDepth 20000 in
theorem t_BH_rule_27 {r : Int32} {σ2 : St} (C : Cx g A p s m av meth c prog_1_method_20_code 3 "BellHammer" (some .boolean))  {σ : St} {H : Heap} {locs : List Loc} {ls : Array Slot} (hf : f_BH_rule_27    σ = some (r, σ2)) (w : Wd g (wX g q) A s σ H locs) (hl : lv_has ls 3 [(0, .ref (q 0))]) : WK p l e s m av below meth c 3 g (wX g q) A (some (.int r)) σ2 H locs (F0 m 27 ls []) := by
  obtain ⟨hx, hb, hml, hown, hts, hK, hA, hZ, hlocks, hr, hN⟩ := id C
  unfold f_BH_rule_27 at hf
  refine lv_aload_n hx hb d_BH_rule_27 rfl (lv_at hl 0 rfl) ?_
  refine xg_0_refused C w k517 d_BH_rule_28 ?_
  refine lv_iconst (v := 3) hx hb d_BH_rule_31 (by decide) ?_
  refine lv_dup2_11 hx hb d_BH_rule_32 rfl rfl ?_
  refine xl_44 C w (by decide) d_BH_rule_33 ?_
  refine lv_iconst (v := 1) hx hb d_BH_rule_34 (by decide) ?_
  refine lv_iadd hx hb d_BH_rule_35 ?_
  refine xs_44 C w (by decide) d_BH_rule_36 (fun σ_1 H locs eσ_1 w => ?_)
  have hf := lt_e eσ_1 hf
  refine lv_iconst (v := 0) hx hb d_BH_rule_37 (by decide) ?_
  obtain ⟨rfl, rfl⟩ := some2_e hf
  exact k_zret C w (by decide) d_BH_rule_38
set_option maxHeartbeats 4000000 in
set_option maxRecDepth 20000 in
theorem c_BH_rule {l : Launch} {g : GX} {q : Nat → Nat} {x1 : Int32} {x2 : Int32}  {σ : St} {r : Int32} {σ2 : St} (hf : f_BH_rule  x1 x2 σ = some (r, σ2)) : KK l y_BH_rule prog_1_method_20_code 3 (some .boolean) 3 g (wX g q) σ [.ref (q 0), .int x1, .int x2] (some (.int r)) (wX g q) σ2 := by
  refine KK_of (plainFor_of_name (by decide)) (Nat.le_of_ble_eq_true rfl) (fun p e s m below meth c A ls C w hl => ?_)
  have hl : lv_has ls 3 [(0, .ref (q 0)), (1, .int x1), (2, .int x2)] := hl
  obtain ⟨hx, hb, hml, hown, hts, hK, hA, hZ, hlocks, hr, hN⟩ := id C
  unfold f_BH_rule at hf
  refine lv_iload_n hx hb d_BH_rule_0 rfl (lv_at hl 1 rfl) ?_
  refine lv_if_lt (tgt := 27) hx hb d_BH_rule_1 (by decide) (fun cd => ?_) (fun cd => ?_)
  · have hf := it_e cd hf
    exact t_BH_rule_27 C  hf w (lv_sub hl [0] rfl)
  · have hf := if_e cd hf
    refine lv_iload_n hx hb d_BH_rule_4 rfl (lv_at hl 1 rfl) ?_
    refine lv_aload_n hx hb d_BH_rule_5 rfl (lv_at hl 0 rfl) ?_
    refine xg_0_fair C w k511 d_BH_rule_6 ?_
    refine xg_34_rules C w k280 d_BH_rule_9 ?_
    refine lv_icmp_ge (tgt := 27) hx hb d_BH_rule_12 (by decide) (fun cd => ?_) (fun cd => ?_)
    · have hf := it_e cd hf
      exact t_BH_rule_27 C  hf w (lv_sub hl [0] rfl)
    · have hf := if_e cd hf
      refine lv_aload_n hx hb d_BH_rule_15 rfl (lv_at hl 0 rfl) ?_
      refine xg_0_book C w k507 d_BH_rule_16 ?_
      refine lv_iload_n hx hb d_BH_rule_19 rfl (lv_at hl 1 rfl) ?_
      obtain ⟨r_2, h_1, hf⟩ := bp_e hf
      refine k_callV (As := [.int x1]) (rest := []) C w (c_Book_isInForce (q := q) h_1) cv_Book_isInForce k966 (xr_14 C w) (by decide) hl.1 rfl (Nat.le_of_ble_eq_true rfl) d_BH_rule_20 (fun H locs w => ?_)
      show WK p l e s m _ below meth c 3 g (wX g q) A (some (.int r)) σ2 H locs (F0 m 23 ls [.int r_2])
      refine lv_iload_n hx hb d_BH_rule_23 rfl (lv_at hl 2 rfl) ?_
      refine lv_icmp_ne (tgt := 39) hx hb d_BH_rule_24 (by decide) (fun cd => ?_) (fun cd => ?_)
      · have hf := if_e cd hf
        refine lv_aload_n hx hb d_BH_rule_39 rfl (lv_at hl 0 rfl) ?_
        refine xg_0_book C w k507 d_BH_rule_40 ?_
        refine lv_iload_n hx hb d_BH_rule_43 rfl (lv_at hl 1 rfl) ?_
        obtain ⟨σ_4, h_3, hf⟩ := bp_e hf
        refine k_callV (As := [.int x1]) (rest := []) C w (c_Book_turnRule (q := q) h_3) cv_Book_turnRule k970 (xr_14 C w) (by decide) hl.1 rfl (Nat.le_of_ble_eq_true rfl) d_BH_rule_44 (fun H locs w => ?_)
        show WK p l e s m _ below meth c 3 g (wX g q) A (some (.int r)) σ2 H locs (F0 m 47 ls [])
        refine lv_iconst (v := 1) hx hb d_BH_rule_47 (by decide) ?_
        obtain ⟨rfl, rfl⟩ := some2_e hf
        exact k_zret C w (by decide) d_BH_rule_48
      · have hf := it_e cd hf
        exact t_BH_rule_27 C  hf w (lv_sub hl [0] rfl)
def f_Book_change (x1 : Int32) (x2 : Int32) (σ : St) : Option (Int32 × St) :=
  gd (inB x1 3) <|
  lt ((sA σ 9 x1.toNatClampNeg)) fun x_2 =>
  bp (f_Book_addAct x1 x_2 σ) fun σ_4 =>
  gd (inB x1 3) <|
  lt (uA σ_4 9 (upd (sA σ_4 9) x1.toNatClampNeg x2)) fun σ_6 =>
  some (x_2, σ_6)
set_option maxHeartbeats 4000000 in
set_option maxRecDepth 20000 in
theorem c_Book_change {l : Launch} {g : GX} {q : Nat → Nat} {x1 : Int32} {x2 : Int32}  {σ : St} {r : Int32} {σ2 : St} (hf : f_Book_change  x1 x2 σ = some (r, σ2)) : KK l y_Book_change prog_2_method_4_code 4 (some .int) 2 g (wX g q) σ [.ref (q 14), .int x1, .int x2] (some (.int r)) (wX g q) σ2 := by
  refine KK_of (plainFor_of_name (by decide)) (Nat.le_of_ble_eq_true rfl) (fun p e s m below meth c A ls C w hl => ?_)
  have hl : lv_has ls 4 [(0, .ref (q 14)), (1, .int x1), (2, .int x2)] := hl
  obtain ⟨hx, hb, hml, hown, hts, hK, hA, hZ, hlocks, hr, hN⟩ := id C
  unfold f_Book_change at hf
  refine lv_aload_n hx hb d_Book_change_0 rfl (lv_at hl 0 rfl) ?_
  refine xg_14_now C w k341 d_Book_change_1 ?_
  refine lv_iload_n hx hb d_Book_change_4 rfl (lv_at hl 1 rfl) ?_
  obtain ⟨g_1, hf⟩ := gd_e hf
  refine xl_15 C w g_1 d_Book_change_5 ?_
  refine lv_topi (fun x_2 ex_2 => ?_)
  have hf := lt_e ex_2 hf
  refine lv_istore_n (lv' := [(3, .int x_2), (0, .ref (q 14)), (1, .int x1), (2, .int x2)]) hx hb d_Book_change_6 rfl hl (by decide) rfl (fun ls hl => ?_)
  refine lv_aload_n hx hb d_Book_change_7 rfl (lv_at hl 1 rfl) ?_
  refine lv_iload_n hx hb d_Book_change_8 rfl (lv_at hl 2 rfl) ?_
  refine lv_iload_n hx hb d_Book_change_9 rfl (lv_at hl 0 rfl) ?_
  obtain ⟨σ_4, h_3, hf⟩ := bp_e hf
  refine k_callV (As := [.int x1, .int x_2]) (rest := []) C w (c_Book_addAct (q := q) h_3) cv_Book_addAct k938 (xr_14 C w) (by decide) hl.1 rfl (Nat.le_of_ble_eq_true rfl) d_Book_change_10 (fun H locs w => ?_)
  show WK p l e s m _ below meth c 2 g (wX g q) A (some (.int r)) σ2 H locs (F0 m 13 ls [])
  refine lv_aload_n hx hb d_Book_change_13 rfl (lv_at hl 1 rfl) ?_
  refine xg_14_now C w k341 d_Book_change_14 ?_
  refine lv_iload_n hx hb d_Book_change_17 rfl (lv_at hl 2 rfl) ?_
  refine lv_iload_n hx hb d_Book_change_18 rfl (lv_at hl 3 rfl) ?_
  obtain ⟨g_5, hf⟩ := gd_e hf
  refine xs_15 C w g_5 d_Book_change_19 (fun σ_6 H locs eσ_6 w => ?_)
  have hf := lt_e eσ_6 hf
  refine lv_iload_n hx hb d_Book_change_20 rfl (lv_at hl 0 rfl) ?_
  obtain ⟨rfl, rfl⟩ := some2_e hf
  exact k_iret C w d_Book_change_21
def f_BH_set_27 (σ : St) : Option (Int32 × St) :=
  lt (uA σ 30 (upd (sA σ 30) (3 : Int32).toNatClampNeg ((sA σ 30 (3 : Int32).toNatClampNeg) + 1))) fun σ_1 =>
  some ((-1), σ_1)
def f_BH_set (x1 : Int32) (x2 : Int32) (σ : St) : Option (Int32 × St) :=
  if x1 < 0 then
    f_BH_set_27 σ
  else
    if 3 ≤ x1 then
      f_BH_set_27 σ
    else
      gd (inB x1 9) <|
      if x2 < (stV 3 x1) then
        f_BH_set_27 σ
      else
        gd (inB x1 9) <|
        if x2 ≤ (stV 4 x1) then
          bd (f_Book_change x1 x2 σ) fun r_4 σ_5 =>
          some (r_4, σ_5)
        else
          f_BH_set_27 σ
set_option maxHeartbeats 4000000 in
set_option maxRecDepth 20000 in
theorem t_BH_set_27 {r : Int32} {σ2 : St} (C : Cx g A p s m av meth c prog_1_method_21_code 3 "BellHammer" (some .int))  {σ : St} {H : Heap} {locs : List Loc} {ls : Array Slot} (hf : f_BH_set_27    σ = some (r, σ2)) (w : Wd g (wX g q) A s σ H locs) (hl : lv_has ls 3 [(0, .ref (q 0))]) : WK p l e s m av below meth c 3 g (wX g q) A (some (.int r)) σ2 H locs (F0 m 27 ls []) := by
  obtain ⟨hx, hb, hml, hown, hts, hK, hA, hZ, hlocks, hr, hN⟩ := id C
  unfold f_BH_set_27 at hf
  refine lv_aload_n hx hb d_BH_set_27 rfl (lv_at hl 0 rfl) ?_
  refine xg_0_refused C w k517 d_BH_set_28 ?_
  refine lv_iconst (v := 3) hx hb d_BH_set_31 (by decide) ?_
  refine lv_dup2_11 hx hb d_BH_set_32 rfl rfl ?_
  refine xl_44 C w (by decide) d_BH_set_33 ?_
  refine lv_iconst (v := 1) hx hb d_BH_set_34 (by decide) ?_
  refine lv_iadd hx hb d_BH_set_35 ?_
  refine xs_44 C w (by decide) d_BH_set_36 (fun σ_1 H locs eσ_1 w => ?_)
  have hf := lt_e eσ_1 hf
  refine lv_iconst (v := (-1)) hx hb d_BH_set_37 (by decide) ?_
  obtain ⟨rfl, rfl⟩ := some2_e hf
  exact k_iret C w d_BH_set_38
set_option maxHeartbeats 4000000 in
set_option maxRecDepth 20000 in
theorem c_BH_set {l : Launch} {g : GX} {q : Nat → Nat} {x1 : Int32} {x2 : Int32}  {σ : St} {r : Int32} {σ2 : St} (hf : f_BH_set  x1 x2 σ = some (r, σ2)) : KK l y_BH_set prog_1_method_21_code 3 (some .int) 3 g (wX g q) σ [.ref (q 0), .int x1, .int x2] (some (.int r)) (wX g q) σ2 := by
  refine KK_of (plainFor_of_name (by decide)) (Nat.le_of_ble_eq_true rfl) (fun p e s m below meth c A ls C w hl => ?_)
  have hl : lv_has ls 3 [(0, .ref (q 0)), (1, .int x1), (2, .int x2)] := hl
  obtain ⟨hx, hb, hml, hown, hts, hK, hA, hZ, hlocks, hr, hN⟩ := id C
  unfold f_BH_set at hf
  refine lv_iload_n hx hb d_BH_set_0 rfl (lv_at hl 1 rfl) ?_
  refine lv_if_lt (tgt := 27) hx hb d_BH_set_1 (by decide) (fun cd => ?_) (fun cd => ?_)
  · have hf := it_e cd hf
    exact t_BH_set_27 C  hf w (lv_sub hl [0] rfl)
  · have hf := if_e cd hf
    refine lv_iload_n hx hb d_BH_set_4 rfl (lv_at hl 1 rfl) ?_
    refine lv_iconst (v := 3) hx hb d_BH_set_5 (by decide) ?_
    refine lv_icmp_ge (tgt := 27) hx hb d_BH_set_6 (by decide) (fun cd => ?_) (fun cd => ?_)
    · have hf := it_e cd hf
      exact t_BH_set_27 C  hf w (lv_sub hl [0] rfl)
    · have hf := if_e cd hf
      refine lv_iload_n hx hb d_BH_set_9 rfl (lv_at hl 2 rfl) ?_
      refine r_gets C w 3 rfl k978 d_BH_set_10 ?_
      refine lv_iload_n hx hb d_BH_set_13 rfl (lv_at hl 1 rfl) ?_
      obtain ⟨g_1, hf⟩ := gd_e hf
      refine r_sld C w 3 rfl g_1 d_BH_set_14 ?_
      refine lv_icmp_lt (tgt := 27) hx hb d_BH_set_15 (by decide) (fun cd => ?_) (fun cd => ?_)
      · have hf := it_e cd hf
        exact t_BH_set_27 C  hf w (lv_sub hl [0] rfl)
      · have hf := if_e cd hf
        refine lv_iload_n hx hb d_BH_set_18 rfl (lv_at hl 2 rfl) ?_
        refine r_gets C w 4 rfl k979 d_BH_set_19 ?_
        refine lv_iload_n hx hb d_BH_set_22 rfl (lv_at hl 1 rfl) ?_
        obtain ⟨g_2, hf⟩ := gd_e hf
        refine r_sld C w 4 rfl g_2 d_BH_set_23 ?_
        refine lv_icmp_le (tgt := 39) hx hb d_BH_set_24 (by decide) (fun cd => ?_) (fun cd => ?_)
        · have hf := it_e cd hf
          refine lv_aload_n hx hb d_BH_set_39 rfl (lv_at hl 0 rfl) ?_
          refine xg_0_book C w k507 d_BH_set_40 ?_
          refine lv_iload_n hx hb d_BH_set_43 rfl (lv_at hl 1 rfl) ?_
          refine lv_iload_n hx hb d_BH_set_44 rfl (lv_at hl 2 rfl) ?_
          obtain ⟨r_4, σ_5, h_3, hf⟩ := bd_e hf
          refine k_callV (As := [.int x1, .int x2]) (rest := []) C w (c_Book_change (q := q) h_3) cv_Book_change k980 (xr_14 C w) (by decide) hl.1 rfl (Nat.le_of_ble_eq_true rfl) d_BH_set_45 (fun H locs w => ?_)
          show WK p l e s m _ below meth c 3 g (wX g q) A (some (.int r)) σ2 H locs (F0 m 48 ls [.int r_4])
          obtain ⟨rfl, rfl⟩ := some2_e hf
          exact k_iret C w d_BH_set_48
        · have hf := if_e cd hf
          exact t_BH_set_27 C  hf w (lv_sub hl [0] rfl)
def f_Book_takeBack (σ : St) : Option (St) :=
  if (sI σ 23) = 0 then
    some σ
  else
    lt (uI σ 23 ((sI σ 23) - 1)) fun σ_1 =>
    gd (inB (sI σ_1 23) 20) <|
    lt ((sA σ_1 10 (sI σ_1 23).toNatClampNeg)) fun x_3 =>
    if 3 ≤ x_3 then
      if x_3 = 3 then
        gd (inB (sI σ_1 23) 20) <|
        lt (uI σ_1 19 (sA σ_1 11 (sI σ_1 23).toNatClampNeg)) fun σ_10 =>
        some σ_10
      else
        lt (uI σ_1 17 ((sI σ_1 17) - 1)) fun σ_4 =>
        gd (inB (sI σ_4 23) 20) <|
        lt (uI σ_4 18 (sA σ_4 11 (sI σ_4 23).toNatClampNeg)) fun σ_6 =>
        gd (inB (sI σ_6 23) 20) <|
        lt (uI σ_6 24 ((sI σ_6 24) - (sA σ_6 12 (sI σ_6 23).toNatClampNeg))) fun σ_8 =>
        some σ_8
    else
      gd (inB (sI σ_1 23) 20) <|
      gd (inB x_3 3) <|
      lt (uA σ_1 9 (upd (sA σ_1 9) x_3.toNatClampNeg (sA σ_1 11 (sI σ_1 23).toNatClampNeg))) fun σ_13 =>
      some σ_13
set_option maxHeartbeats 4000000 in
set_option maxRecDepth 20000 in
theorem c_Book_takeBack {l : Launch} {g : GX} {q : Nat → Nat}  {σ : St} {σ2 : St} (hf : f_Book_takeBack   σ = some σ2) : KK l y_Book_takeBack prog_2_method_9_code 2 none 0 g (wX g q) σ [.ref (q 14)] none (wX g q) σ2 := by
  refine KK_of (plainFor_of_name (by decide)) (Nat.le_of_ble_eq_true rfl) (fun p e s m below meth c A ls C w hl => ?_)
  have hl : lv_has ls 2 [(0, .ref (q 14))] := hl
  obtain ⟨hx, hb, hml, hown, hts, hK, hA, hZ, hlocks, hr, hN⟩ := id C
  unfold f_Book_takeBack at hf
  refine lv_aload_n hx hb d_Book_takeBack_0 rfl (lv_at hl 0 rfl) ?_
  refine xg_14_acts C w k349 d_Book_takeBack_1 ?_
  refine lv_if_ne (tgt := 8) hx hb d_Book_takeBack_4 (by decide) (fun cd => ?_) (fun cd => ?_)
  · have hf := if_e cd hf
    refine lv_aload_n hx hb d_Book_takeBack_8 rfl (lv_at hl 0 rfl) ?_
    refine lv_dup hx hb d_Book_takeBack_9 rfl ?_
    refine xg_14_acts C w k349 d_Book_takeBack_10 ?_
    refine lv_iconst (v := 1) hx hb d_Book_takeBack_13 (by decide) ?_
    refine lv_isub hx hb d_Book_takeBack_14 ?_
    refine xp_14_acts C w k349 d_Book_takeBack_15 (fun σ_1 H locs eσ_1 w => ?_)
    have hf := lt_e eσ_1 hf
    refine lv_aload_n hx hb d_Book_takeBack_18 rfl (lv_at hl 0 rfl) ?_
    refine xg_14_actKind C w k351 d_Book_takeBack_19 ?_
    refine lv_aload_n hx hb d_Book_takeBack_22 rfl (lv_at hl 0 rfl) ?_
    refine xg_14_acts C w k349 d_Book_takeBack_23 ?_
    obtain ⟨g_2, hf⟩ := gd_e hf
    refine xl_16 C w g_2 d_Book_takeBack_26 ?_
    refine lv_topi (fun x_3 ex_3 => ?_)
    have hf := lt_e ex_3 hf
    refine lv_istore_n (lv' := [(1, .int x_3), (0, .ref (q 14))]) hx hb d_Book_takeBack_27 rfl hl (by decide) rfl (fun ls hl => ?_)
    refine lv_iload_n hx hb d_Book_takeBack_28 rfl (lv_at hl 0 rfl) ?_
    refine lv_iconst (v := 3) hx hb d_Book_takeBack_29 (by decide) ?_
    refine lv_icmp_ge (tgt := 51) hx hb d_Book_takeBack_30 (by decide) (fun cd => ?_) (fun cd => ?_)
    · have hf := it_e cd hf
      refine lv_iload_n hx hb d_Book_takeBack_51 rfl (lv_at hl 0 rfl) ?_
      refine lv_iconst (v := 3) hx hb d_Book_takeBack_52 (by decide) ?_
      refine lv_icmp_ne (tgt := 72) hx hb d_Book_takeBack_53 (by decide) (fun cd => ?_) (fun cd => ?_)
      · have hf := if_e cd hf
        refine lv_aload_n hx hb d_Book_takeBack_72 rfl (lv_at hl 1 rfl) ?_
        refine lv_dup hx hb d_Book_takeBack_73 rfl ?_
        refine xg_14_nights C w k335 d_Book_takeBack_74 ?_
        refine lv_iconst (v := 1) hx hb d_Book_takeBack_77 (by decide) ?_
        refine lv_isub hx hb d_Book_takeBack_78 ?_
        refine xp_14_nights C w k335 d_Book_takeBack_79 (fun σ_4 H locs eσ_4 w => ?_)
        have hf := lt_e eσ_4 hf
        refine lv_aload_n hx hb d_Book_takeBack_82 rfl (lv_at hl 1 rfl) ?_
        refine lv_aload_n hx hb d_Book_takeBack_83 rfl (lv_at hl 1 rfl) ?_
        refine xg_14_actOld C w k352 d_Book_takeBack_84 ?_
        refine lv_aload_n hx hb d_Book_takeBack_87 rfl (lv_at hl 1 rfl) ?_
        refine xg_14_acts C w k349 d_Book_takeBack_88 ?_
        obtain ⟨g_5, hf⟩ := gd_e hf
        refine xl_17 C w g_5 d_Book_takeBack_91 ?_
        refine xp_14_takings C w k337 d_Book_takeBack_92 (fun σ_6 H locs eσ_6 w => ?_)
        have hf := lt_e eσ_6 hf
        refine lv_aload_n hx hb d_Book_takeBack_95 rfl (lv_at hl 1 rfl) ?_
        refine lv_dup hx hb d_Book_takeBack_96 rfl ?_
        refine xg_14_keptBlows C w k355 d_Book_takeBack_97 ?_
        refine lv_aload_n hx hb d_Book_takeBack_100 rfl (lv_at hl 1 rfl) ?_
        refine xg_14_actBlows C w k353 d_Book_takeBack_101 ?_
        refine lv_aload_n hx hb d_Book_takeBack_104 rfl (lv_at hl 1 rfl) ?_
        refine xg_14_acts C w k349 d_Book_takeBack_105 ?_
        obtain ⟨g_7, hf⟩ := gd_e hf
        refine xl_18 C w g_7 d_Book_takeBack_108 ?_
        refine lv_isub hx hb d_Book_takeBack_109 ?_
        refine xp_14_keptBlows C w k355 d_Book_takeBack_110 (fun σ_8 H locs eσ_8 w => ?_)
        have hf := lt_e eσ_8 hf
        cases some_e hf
        exact k_vret C w d_Book_takeBack_113
      · have hf := it_e cd hf
        refine lv_aload_n hx hb d_Book_takeBack_56 rfl (lv_at hl 1 rfl) ?_
        refine lv_aload_n hx hb d_Book_takeBack_57 rfl (lv_at hl 1 rfl) ?_
        refine xg_14_actOld C w k352 d_Book_takeBack_58 ?_
        refine lv_aload_n hx hb d_Book_takeBack_61 rfl (lv_at hl 1 rfl) ?_
        refine xg_14_acts C w k349 d_Book_takeBack_62 ?_
        obtain ⟨g_9, hf⟩ := gd_e hf
        refine xl_17 C w g_9 d_Book_takeBack_65 ?_
        refine xp_14_inForce C w k339 d_Book_takeBack_66 (fun σ_10 H locs eσ_10 w => ?_)
        have hf := lt_e eσ_10 hf
        refine lv_goto (tgt := 113) hx hb d_Book_takeBack_69 (by decide) ?_
        cases some_e hf
        exact k_vret C w d_Book_takeBack_113
    · have hf := if_e cd hf
      refine lv_aload_n hx hb d_Book_takeBack_33 rfl (lv_at hl 1 rfl) ?_
      refine xg_14_now C w k341 d_Book_takeBack_34 ?_
      refine lv_iload_n hx hb d_Book_takeBack_37 rfl (lv_at hl 0 rfl) ?_
      refine lv_aload_n hx hb d_Book_takeBack_38 rfl (lv_at hl 1 rfl) ?_
      refine xg_14_actOld C w k352 d_Book_takeBack_39 ?_
      refine lv_aload_n hx hb d_Book_takeBack_42 rfl (lv_at hl 1 rfl) ?_
      refine xg_14_acts C w k349 d_Book_takeBack_43 ?_
      obtain ⟨g_11, hf⟩ := gd_e hf
      refine xl_17 C w g_11 d_Book_takeBack_46 ?_
      obtain ⟨g_12, hf⟩ := gd_e hf
      refine xs_15 C w g_12 d_Book_takeBack_47 (fun σ_13 H locs eσ_13 w => ?_)
      have hf := lt_e eσ_13 hf
      refine lv_goto (tgt := 113) hx hb d_Book_takeBack_48 (by decide) ?_
      cases some_e hf
      exact k_vret C w d_Book_takeBack_113
  · have hf := it_e cd hf
    cases some_e hf
    exact k_vret C w d_Book_takeBack_7
def f_BH_undo (σ : St) : Option (Int32 × St) :=
  if (sI σ 23) = 0 then
    lt (uA σ 30 (upd (sA σ 30) (4 : Int32).toNatClampNeg ((sA σ 30 (4 : Int32).toNatClampNeg) + 1))) fun σ_3 =>
    some (0, σ_3)
  else
    bp (f_Book_takeBack σ) fun σ_2 =>
    some (1, σ_2)
set_option maxHeartbeats 4000000 in
set_option maxRecDepth 20000 in
theorem c_BH_undo {l : Launch} {g : GX} {q : Nat → Nat}  {σ : St} {r : Int32} {σ2 : St} (hf : f_BH_undo   σ = some (r, σ2)) : KK l y_BH_undo prog_1_method_22_code 1 (some .boolean) 1 g (wX g q) σ [.ref (q 0)] (some (.int r)) (wX g q) σ2 := by
  refine KK_of (plainFor_of_name (by decide)) (Nat.le_of_ble_eq_true rfl) (fun p e s m below meth c A ls C w hl => ?_)
  have hl : lv_has ls 1 [(0, .ref (q 0))] := hl
  obtain ⟨hx, hb, hml, hown, hts, hK, hA, hZ, hlocks, hr, hN⟩ := id C
  unfold f_BH_undo at hf
  refine lv_aload_n hx hb d_BH_undo_0 rfl (lv_at hl 0 rfl) ?_
  refine xg_0_book C w k507 d_BH_undo_1 ?_
  refine xg_14_acts C w k350 d_BH_undo_4 ?_
  refine lv_if_ne (tgt := 22) hx hb d_BH_undo_7 (by decide) (fun cd => ?_) (fun cd => ?_)
  · have hf := if_e cd hf
    refine lv_aload_n hx hb d_BH_undo_22 rfl (lv_at hl 0 rfl) ?_
    refine xg_0_book C w k507 d_BH_undo_23 ?_
    obtain ⟨σ_2, h_1, hf⟩ := bp_e hf
    refine k_callV (As := []) (rest := []) C w (c_Book_takeBack (q := q) h_1) cv_Book_takeBack k988 (xr_14 C w) (by decide) hl.1 rfl (Nat.le_of_ble_eq_true rfl) d_BH_undo_26 (fun H locs w => ?_)
    show WK p l e s m _ below meth c 1 g (wX g q) A (some (.int r)) σ2 H locs (F0 m 29 ls [])
    refine lv_iconst (v := 1) hx hb d_BH_undo_29 (by decide) ?_
    obtain ⟨rfl, rfl⟩ := some2_e hf
    exact k_zret C w (by decide) d_BH_undo_30
  · have hf := it_e cd hf
    refine lv_aload_n hx hb d_BH_undo_10 rfl (lv_at hl 0 rfl) ?_
    refine xg_0_refused C w k517 d_BH_undo_11 ?_
    refine lv_iconst (v := 4) hx hb d_BH_undo_14 (by decide) ?_
    refine lv_dup2_11 hx hb d_BH_undo_15 rfl rfl ?_
    refine xl_44 C w (by decide) d_BH_undo_16 ?_
    refine lv_iconst (v := 1) hx hb d_BH_undo_17 (by decide) ?_
    refine lv_iadd hx hb d_BH_undo_18 ?_
    refine xs_44 C w (by decide) d_BH_undo_19 (fun σ_3 H locs eσ_3 w => ?_)
    have hf := lt_e eσ_3 hf
    refine lv_iconst (v := 0) hx hb d_BH_undo_20 (by decide) ?_
    obtain ⟨rfl, rfl⟩ := some2_e hf
    exact k_zret C w (by decide) d_BH_undo_21
def f_BH_seed (x1 : Int32) (σ : St) : Option (Int32 × St) :=
  if 0 ≤ x1 then
    lt (uI σ 22 x1) fun σ_1 =>
    some (1, σ_1)
  else
    lt (uA σ 30 (upd (sA σ 30) (5 : Int32).toNatClampNeg ((sA σ 30 (5 : Int32).toNatClampNeg) + 1))) fun σ_2 =>
    some (0, σ_2)
set_option maxHeartbeats 4000000 in
set_option maxRecDepth 20000 in
theorem c_BH_seed {l : Launch} {g : GX} {q : Nat → Nat} {x1 : Int32}  {σ : St} {r : Int32} {σ2 : St} (hf : f_BH_seed  x1 σ = some (r, σ2)) : KK l y_BH_seed prog_1_method_23_code 2 (some .boolean) 0 g (wX g q) σ [.ref (q 0), .int x1] (some (.int r)) (wX g q) σ2 := by
  refine KK_of (plainFor_of_name (by decide)) (Nat.le_of_ble_eq_true rfl) (fun p e s m below meth c A ls C w hl => ?_)
  have hl : lv_has ls 2 [(0, .ref (q 0)), (1, .int x1)] := hl
  obtain ⟨hx, hb, hml, hown, hts, hK, hA, hZ, hlocks, hr, hN⟩ := id C
  unfold f_BH_seed at hf
  refine lv_iload_n hx hb d_BH_seed_0 rfl (lv_at hl 1 rfl) ?_
  refine lv_if_ge (tgt := 16) hx hb d_BH_seed_1 (by decide) (fun cd => ?_) (fun cd => ?_)
  · have hf := it_e cd hf
    refine lv_aload_n hx hb d_BH_seed_16 rfl (lv_at hl 0 rfl) ?_
    refine xg_0_book C w k507 d_BH_seed_17 ?_
    refine lv_iload_n hx hb d_BH_seed_20 rfl (lv_at hl 1 rfl) ?_
    refine xp_14_seed C w k348 d_BH_seed_21 (fun σ_1 H locs eσ_1 w => ?_)
    have hf := lt_e eσ_1 hf
    refine lv_iconst (v := 1) hx hb d_BH_seed_24 (by decide) ?_
    obtain ⟨rfl, rfl⟩ := some2_e hf
    exact k_zret C w (by decide) d_BH_seed_25
  · have hf := if_e cd hf
    refine lv_aload_n hx hb d_BH_seed_4 rfl (lv_at hl 0 rfl) ?_
    refine xg_0_refused C w k517 d_BH_seed_5 ?_
    refine lv_iconst (v := 5) hx hb d_BH_seed_8 (by decide) ?_
    refine lv_dup2_11 hx hb d_BH_seed_9 rfl rfl ?_
    refine xl_44 C w (by decide) d_BH_seed_10 ?_
    refine lv_iconst (v := 1) hx hb d_BH_seed_11 (by decide) ?_
    refine lv_iadd hx hb d_BH_seed_12 ?_
    refine xs_44 C w (by decide) d_BH_seed_13 (fun σ_2 H locs eσ_2 w => ?_)
    have hf := lt_e eσ_2 hf
    refine lv_iconst (v := 0) hx hb d_BH_seed_14 (by decide) ?_
    obtain ⟨rfl, rfl⟩ := some2_e hf
    exact k_zret C w (by decide) d_BH_seed_15
def f_Book_told (x1 : Int32) (x2 : Int32) (σ : St) : Option (Int32) :=
  bp (f_Book_toldBlows σ) fun r_2 =>
  lt ((((sI σ 24) - r_2) + x1)) fun x_3 =>
  if 0 ≤ x_3 then
    gd (inB (iR x_3 700) 700) <|
    lt ((sA σ 13 (iR x_3 700).toNatClampNeg)) fun x_5 =>
    if x2 = 0 then
      some (x_5 >>> (14 &&& 31))
    else
      if x2 = 1 then
        some ((x_5 >>> (11 &&& 31)) &&& 7)
      else
        if x2 = 2 then
          some ((x_5 >>> (8 &&& 31)) &&& 7)
        else
          if x2 = 3 then
            some ((x_5 >>> (7 &&& 31)) &&& 1)
          else
            if x2 = 4 then
              some (x_5 &&& 127)
            else
              some (-1)
  else
    some (-1)
set_option maxHeartbeats 4000000 in
set_option maxRecDepth 20000 in
theorem c_Book_told {l : Launch} {g : GX} {q : Nat → Nat} {x1 : Int32} {x2 : Int32}  {σ : St} {r : Int32} (hf : f_Book_told  x1 x2 σ = some r) : KK l y_Book_told prog_2_method_11_code 5 (some .int) 2 g (wX g q) σ [.ref (q 14), .int x1, .int x2] (some (.int r)) (wX g q) σ := by
  refine KK_of (plainFor_of_name (by decide)) (Nat.le_of_ble_eq_true rfl) (fun p e s m below meth c A ls C w hl => ?_)
  have hl : lv_has ls 5 [(0, .ref (q 14)), (1, .int x1), (2, .int x2)] := hl
  obtain ⟨hx, hb, hml, hown, hts, hK, hA, hZ, hlocks, hr, hN⟩ := id C
  unfold f_Book_told at hf
  refine lv_aload_n hx hb d_Book_told_0 rfl (lv_at hl 0 rfl) ?_
  refine xg_14_keptBlows C w k355 d_Book_told_1 ?_
  refine lv_aload_n hx hb d_Book_told_4 rfl (lv_at hl 0 rfl) ?_
  obtain ⟨r_2, h_1, hf⟩ := bp_e hf
  refine k_callV (As := []) (rest := [.int (sI σ 24)]) C w (c_Book_toldBlows (q := q) h_1) cv_Book_toldBlows k1004 (xr_14 C w) (by decide) hl.1 rfl (Nat.le_of_ble_eq_true rfl) d_Book_told_5 (fun H locs w => ?_)
  show WK p l e s m _ below meth c 2 g (wX g q) A (some (.int r)) σ H locs (F0 m 8 ls [.int r_2, .int (sI σ 24)])
  refine lv_isub hx hb d_Book_told_8 ?_
  refine lv_iload_n hx hb d_Book_told_9 rfl (lv_at hl 1 rfl) ?_
  refine lv_iadd hx hb d_Book_told_10 ?_
  refine lv_topi (fun x_3 ex_3 => ?_)
  have hf := lt_e ex_3 hf
  refine lv_istore_n (lv' := [(3, .int x_3), (0, .ref (q 14)), (1, .int x1), (2, .int x2)]) hx hb d_Book_told_11 rfl hl (by decide) rfl (fun ls hl => ?_)
  refine lv_iload_n hx hb d_Book_told_12 rfl (lv_at hl 0 rfl) ?_
  refine lv_if_ge (tgt := 18) hx hb d_Book_told_13 (by decide) (fun cd => ?_) (fun cd => ?_)
  · have hf := it_e cd hf
    refine lv_aload_n hx hb d_Book_told_18 rfl (lv_at hl 1 rfl) ?_
    refine xg_14_blows C w k354 d_Book_told_19 ?_
    refine lv_iload_n hx hb d_Book_told_22 rfl (lv_at hl 0 rfl) ?_
    refine lv_sipush (v := 700) hx hb d_Book_told_23 (by decide) ?_
    refine r_irem hx hb d_Book_told_26 (by decide) ?_
    obtain ⟨g_4, hf⟩ := gd_e hf
    refine xl_19 C w g_4 d_Book_told_27 ?_
    refine lv_topi (fun x_5 ex_5 => ?_)
    have hf := lt_e ex_5 hf
    refine lv_istore (lv' := [(4, .int x_5), (3, .int x_3), (0, .ref (q 14)), (1, .int x1), (2, .int x2)]) hx hb d_Book_told_28 hl (by decide) rfl (fun ls hl => ?_)
    refine lv_iload_n hx hb d_Book_told_30 rfl (lv_at hl 4 rfl) ?_
    by_cases c0 : x2 = 0
    · have hf := it_e c0 hf
      refine lv_tableIn (tgt := 64) hx hb d_Book_told_31 (by rw [c0]; decide) (by rw [c0]; decide) (by rw [c0]; rfl) (by decide) ?_
      refine lv_iload hx hb d_Book_told_64 (lv_at hl 0 rfl) ?_
      refine lv_bipush (v := 14) hx hb d_Book_told_66 (by decide) ?_
      refine lv_ishr hx hb d_Book_told_68 ?_
      cases some_e hf
      exact k_iret C w d_Book_told_69
    have hf := if_e c0 hf
    have n0 := lv_neT c0 (a := 0) rfl
    by_cases c1 : x2 = 1
    · have hf := it_e c1 hf
      refine lv_tableIn (tgt := 70) hx hb d_Book_told_31 (by rw [c1]; decide) (by rw [c1]; decide) (by rw [c1]; rfl) (by decide) ?_
      refine lv_iload hx hb d_Book_told_70 (lv_at hl 0 rfl) ?_
      refine lv_bipush (v := 11) hx hb d_Book_told_72 (by decide) ?_
      refine lv_ishr hx hb d_Book_told_74 ?_
      refine lv_bipush (v := 7) hx hb d_Book_told_75 (by decide) ?_
      refine lv_iand hx hb d_Book_told_77 ?_
      cases some_e hf
      exact k_iret C w d_Book_told_78
    have hf := if_e c1 hf
    have n1 := lv_neT c1 (a := 1) rfl
    by_cases c2 : x2 = 2
    · have hf := it_e c2 hf
      refine lv_tableIn (tgt := 79) hx hb d_Book_told_31 (by rw [c2]; decide) (by rw [c2]; decide) (by rw [c2]; rfl) (by decide) ?_
      refine lv_iload hx hb d_Book_told_79 (lv_at hl 0 rfl) ?_
      refine lv_bipush (v := 8) hx hb d_Book_told_81 (by decide) ?_
      refine lv_ishr hx hb d_Book_told_83 ?_
      refine lv_bipush (v := 7) hx hb d_Book_told_84 (by decide) ?_
      refine lv_iand hx hb d_Book_told_86 ?_
      cases some_e hf
      exact k_iret C w d_Book_told_87
    have hf := if_e c2 hf
    have n2 := lv_neT c2 (a := 2) rfl
    by_cases c3 : x2 = 3
    · have hf := it_e c3 hf
      refine lv_tableIn (tgt := 88) hx hb d_Book_told_31 (by rw [c3]; decide) (by rw [c3]; decide) (by rw [c3]; rfl) (by decide) ?_
      refine lv_iload hx hb d_Book_told_88 (lv_at hl 0 rfl) ?_
      refine lv_bipush (v := 7) hx hb d_Book_told_90 (by decide) ?_
      refine lv_ishr hx hb d_Book_told_92 ?_
      refine lv_iconst (v := 1) hx hb d_Book_told_93 (by decide) ?_
      refine lv_iand hx hb d_Book_told_94 ?_
      cases some_e hf
      exact k_iret C w d_Book_told_95
    have hf := if_e c3 hf
    have n3 := lv_neT c3 (a := 3) rfl
    by_cases c4 : x2 = 4
    · have hf := it_e c4 hf
      refine lv_tableIn (tgt := 96) hx hb d_Book_told_31 (by rw [c4]; decide) (by rw [c4]; decide) (by rw [c4]; rfl) (by decide) ?_
      refine lv_iload hx hb d_Book_told_96 (lv_at hl 0 rfl) ?_
      refine lv_bipush (v := 127) hx hb d_Book_told_98 (by decide) ?_
      refine lv_iand hx hb d_Book_told_100 ?_
      cases some_e hf
      exact k_iret C w d_Book_told_101
    have hf := if_e c4 hf
    have n4 := lv_neT c4 (a := 4) rfl
    refine lv_tableOut (tgt := 102) hx hb d_Book_told_31 (by omega) (by decide) ?_
    refine lv_iconst (v := (-1)) hx hb d_Book_told_102 (by decide) ?_
    cases some_e hf
    exact k_iret C w d_Book_told_103
  · have hf := if_e cd hf
    refine lv_iconst (v := (-1)) hx hb d_Book_told_16 (by decide) ?_
    cases some_e hf
    exact k_iret C w d_Book_told_17
def f_BH_kept (x1 : Int32) (x2 : Int32) (σ : St) : Option (Int32) :=
  if x1 < 0 then
    some (-1)
  else
    bp (f_Book_toldBlows σ) fun r_2 =>
    if r_2 ≤ x1 then
      some (-1)
    else
      if x2 < 0 then
        some (-1)
      else
        if x2 ≤ 4 then
          bp (f_Book_told x1 x2 σ) fun r_4 =>
          some r_4
        else
          some (-1)
set_option maxHeartbeats 4000000 in
set_option maxRecDepth 20000 in
theorem c_BH_kept {l : Launch} {g : GX} {q : Nat → Nat} {x1 : Int32} {x2 : Int32}  {σ : St} {r : Int32} (hf : f_BH_kept  x1 x2 σ = some r) : KK l y_BH_kept prog_1_method_24_code 3 (some .int) 3 g (wX g q) σ [.ref (q 0), .int x1, .int x2] (some (.int r)) (wX g q) σ := by
  refine KK_of (plainFor_of_name (by decide)) (Nat.le_of_ble_eq_true rfl) (fun p e s m below meth c A ls C w hl => ?_)
  have hl : lv_has ls 3 [(0, .ref (q 0)), (1, .int x1), (2, .int x2)] := hl
  obtain ⟨hx, hb, hml, hown, hts, hK, hA, hZ, hlocks, hr, hN⟩ := id C
  unfold f_BH_kept at hf
  refine lv_iload_n hx hb d_BH_kept_0 rfl (lv_at hl 1 rfl) ?_
  refine lv_if_lt (tgt := 24) hx hb d_BH_kept_1 (by decide) (fun cd => ?_) (fun cd => ?_)
  · have hf := it_e cd hf
    refine lv_iconst (v := (-1)) hx hb d_BH_kept_24 (by decide) ?_
    cases some_e hf
    exact k_iret C w d_BH_kept_25
  · have hf := if_e cd hf
    refine lv_iload_n hx hb d_BH_kept_4 rfl (lv_at hl 1 rfl) ?_
    refine lv_aload_n hx hb d_BH_kept_5 rfl (lv_at hl 0 rfl) ?_
    refine xg_0_book C w k507 d_BH_kept_6 ?_
    obtain ⟨r_2, h_1, hf⟩ := bp_e hf
    refine k_callV (As := []) (rest := [.int x1]) C w (c_Book_toldBlows (q := q) h_1) cv_Book_toldBlows k710 (xr_14 C w) (by decide) hl.1 rfl (Nat.le_of_ble_eq_true rfl) d_BH_kept_9 (fun H locs w => ?_)
    show WK p l e s m _ below meth c 3 g (wX g q) A (some (.int r)) σ H locs (F0 m 12 ls [.int r_2, .int x1])
    refine lv_icmp_ge (tgt := 24) hx hb d_BH_kept_12 (by decide) (fun cd => ?_) (fun cd => ?_)
    · have hf := it_e cd hf
      refine lv_iconst (v := (-1)) hx hb d_BH_kept_24 (by decide) ?_
      cases some_e hf
      exact k_iret C w d_BH_kept_25
    · have hf := if_e cd hf
      refine lv_iload_n hx hb d_BH_kept_15 rfl (lv_at hl 2 rfl) ?_
      refine lv_if_lt (tgt := 24) hx hb d_BH_kept_16 (by decide) (fun cd => ?_) (fun cd => ?_)
      · have hf := it_e cd hf
        refine lv_iconst (v := (-1)) hx hb d_BH_kept_24 (by decide) ?_
        cases some_e hf
        exact k_iret C w d_BH_kept_25
      · have hf := if_e cd hf
        refine lv_iload_n hx hb d_BH_kept_19 rfl (lv_at hl 2 rfl) ?_
        refine lv_iconst (v := 4) hx hb d_BH_kept_20 (by decide) ?_
        refine lv_icmp_le (tgt := 26) hx hb d_BH_kept_21 (by decide) (fun cd => ?_) (fun cd => ?_)
        · have hf := it_e cd hf
          refine lv_aload_n hx hb d_BH_kept_26 rfl (lv_at hl 0 rfl) ?_
          refine xg_0_book C w k507 d_BH_kept_27 ?_
          refine lv_iload_n hx hb d_BH_kept_30 rfl (lv_at hl 1 rfl) ?_
          refine lv_iload_n hx hb d_BH_kept_31 rfl (lv_at hl 2 rfl) ?_
          obtain ⟨r_4, h_3, hf⟩ := bp_e hf
          refine k_callV (As := [.int x1, .int x2]) (rest := []) C w (c_Book_told (q := q) h_3) cv_Book_told k1000 (xr_14 C w) (by decide) hl.1 rfl (Nat.le_of_ble_eq_true rfl) d_BH_kept_32 (fun H locs w => ?_)
          show WK p l e s m _ below meth c 3 g (wX g q) A (some (.int r)) σ H locs (F0 m 35 ls [.int r_4])
          cases some_e hf
          exact k_iret C w d_BH_kept_35
        · have hf := if_e cd hf
          refine lv_iconst (v := (-1)) hx hb d_BH_kept_24 (by decide) ?_
          cases some_e hf
          exact k_iret C w d_BH_kept_25
def f_BH_canBeSeen_14b (k14 : Int32 → Int32 → St → Option (Int32)) (x1 : Int32) (x2 : Int32) (σ : St) : Option (Int32) :=
  if x1 ≤ x2 then
    some 1
  else
    gd (inB x2 1600) <|
    if (sA σ 0 x2.toNatClampNeg) ≤ (sA σ 9 (0 : Int32).toNatClampNeg) then
      lt ((x2 + 1)) fun x_2 =>
      k14 x1 x_2 σ
    else
      some 0
def f_BH_canBeSeen_14 : Nat → Int32 → Int32 → St → Option (Int32)
  | 0 => fun _ _ _ => none
  | n + 1 => f_BH_canBeSeen_14b   (f_BH_canBeSeen_14   n)
def f_BH_canBeSeen (x1 : Int32) (σ : St) : Option (Int32) :=
  if x1 < 1 then
    some 0
  else
    if x1 ≤ 4 then
      f_BH_canBeSeen_14 FU x1 0 σ
    else
      some 0
set_option maxHeartbeats 4000000 in
set_option maxRecDepth 20000 in
theorem t_BH_canBeSeen_14b {r : Int32} {σ : St} (C : Cx g A p s m av meth c prog_1_method_43_code 3 "BellHammer" (some .boolean)) {k14 : Int32 → Int32 → St → Option (Int32)} (hk14 : ∀ (x1 : Int32) (x2 : Int32) (H : Heap) (locs : List Loc) (ls : Array Slot), k14 x1 x2 σ = some r → Wd g (wX g q) A s σ H locs → lv_has ls 3 [(0, .ref (q 0)), (1, .int x1), (2, .int x2)] → WK p l e s m av below meth c 0 g (wX g q) A (some (.int r)) σ H locs (F0 m 14 ls []))  {x1 : Int32} {x2 : Int32} {H : Heap} {locs : List Loc} {ls : Array Slot} (hf : f_BH_canBeSeen_14b  k14 x1 x2 σ = some r) (w : Wd g (wX g q) A s σ H locs) (hl : lv_has ls 3 [(0, .ref (q 0)), (1, .int x1), (2, .int x2)]) : WK p l e s m av below meth c 0 g (wX g q) A (some (.int r)) σ H locs (F0 m 14 ls []) := by
  obtain ⟨hx, hb, hml, hown, hts, hK, hA, hZ, hlocks, hr, hN⟩ := id C
  unfold f_BH_canBeSeen_14b at hf
  refine lv_iload_n hx hb d_BH_canBeSeen_14 rfl (lv_at hl 2 rfl) ?_
  refine lv_iload_n hx hb d_BH_canBeSeen_15 rfl (lv_at hl 1 rfl) ?_
  refine lv_icmp_ge (tgt := 48) hx hb d_BH_canBeSeen_16 (by decide) (fun cd => ?_) (fun cd => ?_)
  · have hf := it_e cd hf
    refine lv_iconst (v := 1) hx hb d_BH_canBeSeen_48 (by decide) ?_
    cases some_e hf
    exact k_zret C w (by decide) d_BH_canBeSeen_49
  · have hf := if_e cd hf
    refine lv_aload_n hx hb d_BH_canBeSeen_19 rfl (lv_at hl 0 rfl) ?_
    refine xg_0_tape C w k505 d_BH_canBeSeen_20 ?_
    refine xg_1_bytes C w k132 d_BH_canBeSeen_23 ?_
    refine lv_iload_n hx hb d_BH_canBeSeen_26 rfl (lv_at hl 2 rfl) ?_
    obtain ⟨g_1, hf⟩ := gd_e hf
    refine xl_2 C w g_1 d_BH_canBeSeen_27 ?_
    refine lv_aload_n hx hb d_BH_canBeSeen_28 rfl (lv_at hl 0 rfl) ?_
    refine xg_0_book C w k507 d_BH_canBeSeen_29 ?_
    refine xg_14_now C w k342 d_BH_canBeSeen_32 ?_
    refine lv_iconst (v := 0) hx hb d_BH_canBeSeen_35 (by decide) ?_
    refine xl_15 C w (by decide) d_BH_canBeSeen_36 ?_
    refine lv_icmp_le (tgt := 42) hx hb d_BH_canBeSeen_37 (by decide) (fun cd => ?_) (fun cd => ?_)
    · have hf := it_e cd hf
      obtain ⟨x_2, ex_2⟩ : ∃ y : Int32, y = (x2 + 1) := ⟨_, rfl⟩
      have hf := lt_e ex_2 hf
      refine lv_iinc (v := x_2) (lv' := [(2, .int x_2), (0, .ref (q 0)), (1, .int x1)]) hx hb d_BH_canBeSeen_42 hl (k := 2) rfl (by rw [ex_2]; rfl) (by decide) rfl (fun ls hl => ?_)
      refine lv_goto (tgt := 14) hx hb d_BH_canBeSeen_45 (by decide) ?_
      exact hk14 x1 x_2  _ _ _ hf w (lv_sub hl [1, 2, 0] rfl)
    · have hf := if_e cd hf
      refine lv_iconst (v := 0) hx hb d_BH_canBeSeen_40 (by decide) ?_
      cases some_e hf
      exact k_zret C w (by decide) d_BH_canBeSeen_41
set_option maxHeartbeats 4000000 in
set_option maxRecDepth 20000 in
theorem t_BH_canBeSeen_14 {r : Int32} {σ : St} (C : Cx g A p s m av meth c prog_1_method_43_code 3 "BellHammer" (some .boolean))  : ∀ (n : Nat) (x1 : Int32) (x2 : Int32) (H : Heap) (locs : List Loc) (ls : Array Slot), f_BH_canBeSeen_14   n x1 x2 σ = some r → Wd g (wX g q) A s σ H locs → lv_has ls 3 [(0, .ref (q 0)), (1, .int x1), (2, .int x2)] → WK p l e s m av below meth c 0 g (wX g q) A (some (.int r)) σ H locs (F0 m 14 ls []) := by
  intro n
  induction n with
  | zero => intro x1 x2 H locs ls hf; exact absurd hf (by intro z; cases z)
  | succ n ih => intro x1 x2 H locs ls hf w hl; exact t_BH_canBeSeen_14b C  ih hf w hl
set_option maxHeartbeats 4000000 in
set_option maxRecDepth 20000 in
theorem c_BH_canBeSeen {l : Launch} {g : GX} {q : Nat → Nat} {x1 : Int32}  {σ : St} {r : Int32} (hf : f_BH_canBeSeen  x1 σ = some r) : KK l y_BH_canBeSeen prog_1_method_43_code 3 (some .boolean) 0 g (wX g q) σ [.ref (q 0), .int x1] (some (.int r)) (wX g q) σ := by
  refine KK_of (plainFor_of_name (by decide)) (Nat.le_of_ble_eq_true rfl) (fun p e s m below meth c A ls C w hl => ?_)
  have hl : lv_has ls 3 [(0, .ref (q 0)), (1, .int x1)] := hl
  obtain ⟨hx, hb, hml, hown, hts, hK, hA, hZ, hlocks, hr, hN⟩ := id C
  unfold f_BH_canBeSeen at hf
  refine lv_iload_n hx hb d_BH_canBeSeen_0 rfl (lv_at hl 1 rfl) ?_
  refine lv_iconst (v := 1) hx hb d_BH_canBeSeen_1 (by decide) ?_
  refine lv_icmp_lt (tgt := 10) hx hb d_BH_canBeSeen_2 (by decide) (fun cd => ?_) (fun cd => ?_)
  · have hf := it_e cd hf
    refine lv_iconst (v := 0) hx hb d_BH_canBeSeen_10 (by decide) ?_
    cases some_e hf
    exact k_zret C w (by decide) d_BH_canBeSeen_11
  · have hf := if_e cd hf
    refine lv_iload_n hx hb d_BH_canBeSeen_5 rfl (lv_at hl 1 rfl) ?_
    refine lv_iconst (v := 4) hx hb d_BH_canBeSeen_6 (by decide) ?_
    refine lv_icmp_le (tgt := 12) hx hb d_BH_canBeSeen_7 (by decide) (fun cd => ?_) (fun cd => ?_)
    · have hf := it_e cd hf
      refine lv_iconst (v := 0) hx hb d_BH_canBeSeen_12 (by decide) ?_
      refine lv_istore_n (lv' := [(2, .int 0), (0, .ref (q 0)), (1, .int x1)]) hx hb d_BH_canBeSeen_13 rfl hl (by decide) rfl (fun ls hl => ?_)
      exact t_BH_canBeSeen_14 C  FU x1 0  _ _ _ hf w (lv_sub hl [1, 2, 0] rfl)
    · have hf := if_e cd hf
      refine lv_iconst (v := 0) hx hb d_BH_canBeSeen_10 (by decide) ?_
      cases some_e hf
      exact k_zret C w (by decide) d_BH_canBeSeen_11
def f_BH_see_46b (k46 : Int32 → Int32 → Int32 → St → Option (Int32 × St)) (x1 : Int32) (x2 : Int32) (x3 : Int32) (σ : St) : Option (Int32 × St) :=
  if x2 ≤ x3 then
    lt (uI σ 0 x2) fun σ_1 =>
    lt (uI σ_1 1 x1) fun σ_2 =>
    some (1, σ_2)
  else
    gd (inB x3 1600) <|
    gd (inB x3 4) <|
    lt (uA σ 28 (upd (sA σ 28) x3.toNatClampNeg (sA σ 0 x3.toNatClampNeg))) fun σ_5 =>
    lt ((x3 + 1)) fun x_6 =>
    k46 x1 x2 x_6 σ_5
def f_BH_see_46 : Nat → Int32 → Int32 → Int32 → St → Option (Int32 × St)
  | 0 => fun _ _ _ _ => none
  | n + 1 => f_BH_see_46b   (f_BH_see_46   n)
def f_BH_see_32 (σ : St) : Option (Int32 × St) :=
  lt (uA σ 30 (upd (sA σ 30) (1 : Int32).toNatClampNeg ((sA σ 30 (1 : Int32).toNatClampNeg) + 1))) fun σ_1 =>
  some (0, σ_1)
def f_BH_see (x1 : Int32) (σ : St) : Option (Int32 × St) :=
  lt ((sI σ 3)) fun x_1 =>
  lt (uI σ 3 0) fun σ_2 =>
  bp (f_BH_isTrier x1 σ_2) fun r_4 =>
  if r_4 = 0 then
    f_BH_see_32 σ_2
  else
    bp (f_BH_canBeSeen x_1 σ_2) fun r_6 =>
    if r_6 = 0 then
      f_BH_see_32 σ_2
    else
      f_BH_see_46 FU x1 x_1 0 σ_2
set_option maxHeartbeats 4000000 in
set_option maxRecDepth 20000 in
theorem t_BH_see_46b {r : Int32} {σ2 : St} (C : Cx g A p s m av meth c prog_1_method_25_code 4 "BellHammer" (some .boolean)) {k46 : Int32 → Int32 → Int32 → St → Option (Int32 × St)} (hk46 : ∀ (x1 : Int32) (x2 : Int32) (x3 : Int32) (σ : St) (H : Heap) (locs : List Loc) (ls : Array Slot), k46 x1 x2 x3 σ = some (r, σ2) → Wd g (wX g q) A s σ H locs → lv_has ls 4 [(0, .ref (q 0)), (1, .int x1), (2, .int x2), (3, .int x3)] → WK p l e s m av below meth c 1 g (wX g q) A (some (.int r)) σ2 H locs (F0 m 46 ls []))  {x1 : Int32} {x2 : Int32} {x3 : Int32} {σ : St} {H : Heap} {locs : List Loc} {ls : Array Slot} (hf : f_BH_see_46b  k46 x1 x2 x3 σ = some (r, σ2)) (w : Wd g (wX g q) A s σ H locs) (hl : lv_has ls 4 [(0, .ref (q 0)), (1, .int x1), (2, .int x2), (3, .int x3)]) : WK p l e s m av below meth c 1 g (wX g q) A (some (.int r)) σ2 H locs (F0 m 46 ls []) := by
  obtain ⟨hx, hb, hml, hown, hts, hK, hA, hZ, hlocks, hr, hN⟩ := id C
  unfold f_BH_see_46b at hf
  refine lv_iload_n hx hb d_BH_see_46 rfl (lv_at hl 3 rfl) ?_
  refine lv_iload_n hx hb d_BH_see_47 rfl (lv_at hl 2 rfl) ?_
  refine lv_icmp_ge (tgt := 72) hx hb d_BH_see_48 (by decide) (fun cd => ?_) (fun cd => ?_)
  · have hf := it_e cd hf
    refine lv_aload_n hx hb d_BH_see_72 rfl (lv_at hl 0 rfl) ?_
    refine lv_iload_n hx hb d_BH_see_73 rfl (lv_at hl 2 rfl) ?_
    refine xp_0_seenBlows C w k513 d_BH_see_74 (fun σ_1 H locs eσ_1 w => ?_)
    have hf := lt_e eσ_1 hf
    refine lv_aload_n hx hb d_BH_see_77 rfl (lv_at hl 0 rfl) ?_
    refine lv_iload_n hx hb d_BH_see_78 rfl (lv_at hl 1 rfl) ?_
    refine xp_0_seenTrier C w k514 d_BH_see_79 (fun σ_2 H locs eσ_2 w => ?_)
    have hf := lt_e eσ_2 hf
    refine lv_iconst (v := 1) hx hb d_BH_see_82 (by decide) ?_
    obtain ⟨rfl, rfl⟩ := some2_e hf
    exact k_zret C w (by decide) d_BH_see_83
  · have hf := if_e cd hf
    refine lv_aload_n hx hb d_BH_see_51 rfl (lv_at hl 0 rfl) ?_
    refine xg_0_seen C w k512 d_BH_see_52 ?_
    refine lv_iload_n hx hb d_BH_see_55 rfl (lv_at hl 3 rfl) ?_
    refine lv_aload_n hx hb d_BH_see_56 rfl (lv_at hl 0 rfl) ?_
    refine xg_0_tape C w k505 d_BH_see_57 ?_
    refine xg_1_bytes C w k132 d_BH_see_60 ?_
    refine lv_iload_n hx hb d_BH_see_63 rfl (lv_at hl 3 rfl) ?_
    obtain ⟨g_3, hf⟩ := gd_e hf
    refine xl_2 C w g_3 d_BH_see_64 ?_
    obtain ⟨g_4, hf⟩ := gd_e hf
    refine xs_42 C w g_4 d_BH_see_65 (fun σ_5 H locs eσ_5 w => ?_)
    have hf := lt_e eσ_5 hf
    obtain ⟨x_6, ex_6⟩ : ∃ y : Int32, y = (x3 + 1) := ⟨_, rfl⟩
    have hf := lt_e ex_6 hf
    refine lv_iinc (v := x_6) (lv' := [(3, .int x_6), (0, .ref (q 0)), (1, .int x1), (2, .int x2)]) hx hb d_BH_see_66 hl (k := 3) rfl (by rw [ex_6]; rfl) (by decide) rfl (fun ls hl => ?_)
    refine lv_goto (tgt := 46) hx hb d_BH_see_69 (by decide) ?_
    exact hk46 x1 x2 x_6 σ_5 _ _ _ hf w (lv_sub hl [1, 2, 3, 0] rfl)
set_option maxHeartbeats 4000000 in
set_option maxRecDepth 20000 in
theorem t_BH_see_46 {r : Int32} {σ2 : St} (C : Cx g A p s m av meth c prog_1_method_25_code 4 "BellHammer" (some .boolean))  : ∀ (n : Nat) (x1 : Int32) (x2 : Int32) (x3 : Int32) (σ : St) (H : Heap) (locs : List Loc) (ls : Array Slot), f_BH_see_46   n x1 x2 x3 σ = some (r, σ2) → Wd g (wX g q) A s σ H locs → lv_has ls 4 [(0, .ref (q 0)), (1, .int x1), (2, .int x2), (3, .int x3)] → WK p l e s m av below meth c 1 g (wX g q) A (some (.int r)) σ2 H locs (F0 m 46 ls []) := by
  intro n
  induction n with
  | zero => intro x1 x2 x3 σ H locs ls hf; exact absurd hf (by intro z; cases z)
  | succ n ih => intro x1 x2 x3 σ H locs ls hf w hl; exact t_BH_see_46b C  ih hf w hl
set_option maxHeartbeats 4000000 in
set_option maxRecDepth 20000 in
theorem t_BH_see_32 {r : Int32} {σ2 : St} (C : Cx g A p s m av meth c prog_1_method_25_code 4 "BellHammer" (some .boolean))  {σ : St} {H : Heap} {locs : List Loc} {ls : Array Slot} (hf : f_BH_see_32    σ = some (r, σ2)) (w : Wd g (wX g q) A s σ H locs) (hl : lv_has ls 4 [(0, .ref (q 0))]) : WK p l e s m av below meth c 1 g (wX g q) A (some (.int r)) σ2 H locs (F0 m 32 ls []) := by
  obtain ⟨hx, hb, hml, hown, hts, hK, hA, hZ, hlocks, hr, hN⟩ := id C
  unfold f_BH_see_32 at hf
  refine lv_aload_n hx hb d_BH_see_32 rfl (lv_at hl 0 rfl) ?_
  refine xg_0_refused C w k517 d_BH_see_33 ?_
  refine lv_iconst (v := 1) hx hb d_BH_see_36 (by decide) ?_
  refine lv_dup2_11 hx hb d_BH_see_37 rfl rfl ?_
  refine xl_44 C w (by decide) d_BH_see_38 ?_
  refine lv_iconst (v := 1) hx hb d_BH_see_39 (by decide) ?_
  refine lv_iadd hx hb d_BH_see_40 ?_
  refine xs_44 C w (by decide) d_BH_see_41 (fun σ_1 H locs eσ_1 w => ?_)
  have hf := lt_e eσ_1 hf
  refine lv_iconst (v := 0) hx hb d_BH_see_42 (by decide) ?_
  obtain ⟨rfl, rfl⟩ := some2_e hf
  exact k_zret C w (by decide) d_BH_see_43
set_option maxHeartbeats 4000000 in
set_option maxRecDepth 20000 in
theorem c_BH_see {l : Launch} {g : GX} {q : Nat → Nat} {x1 : Int32}  {σ : St} {r : Int32} {σ2 : St} (hf : f_BH_see  x1 σ = some (r, σ2)) : KK l y_BH_see prog_1_method_25_code 4 (some .boolean) 1 g (wX g q) σ [.ref (q 0), .int x1] (some (.int r)) (wX g q) σ2 := by
  refine KK_of (plainFor_of_name (by decide)) (Nat.le_of_ble_eq_true rfl) (fun p e s m below meth c A ls C w hl => ?_)
  have hl : lv_has ls 4 [(0, .ref (q 0)), (1, .int x1)] := hl
  obtain ⟨hx, hb, hml, hown, hts, hK, hA, hZ, hlocks, hr, hN⟩ := id C
  unfold f_BH_see at hf
  refine lv_aload_n hx hb d_BH_see_0 rfl (lv_at hl 0 rfl) ?_
  refine xg_0_tape C w k505 d_BH_see_1 ?_
  refine xg_1_size C w k133 d_BH_see_4 ?_
  refine lv_topi (fun x_1 ex_1 => ?_)
  have hf := lt_e ex_1 hf
  refine lv_istore_n (lv' := [(2, .int x_1), (0, .ref (q 0)), (1, .int x1)]) hx hb d_BH_see_7 rfl hl (by decide) rfl (fun ls hl => ?_)
  refine lv_aload_n hx hb d_BH_see_8 rfl (lv_at hl 1 rfl) ?_
  refine xg_0_tape C w k505 d_BH_see_9 ?_
  refine lv_iconst (v := 0) hx hb d_BH_see_12 (by decide) ?_
  refine xp_1_size C w k133 d_BH_see_13 (fun σ_2 H locs eσ_2 w => ?_)
  have hf := lt_e eσ_2 hf
  refine lv_aload_n hx hb d_BH_see_16 rfl (lv_at hl 1 rfl) ?_
  refine lv_iload_n hx hb d_BH_see_17 rfl (lv_at hl 2 rfl) ?_
  obtain ⟨r_4, h_3, hf⟩ := bp_e hf
  refine k_callV (As := [.int x1]) (rest := []) C w (c_BH_isTrier (q := q) h_3) cv_BH_isTrier k726 (xr_0 C w) (by decide) hl.1 rfl (Nat.le_of_ble_eq_true rfl) d_BH_see_18 (fun H locs w => ?_)
  show WK p l e s m _ below meth c 1 g (wX g q) A (some (.int r)) σ2 H locs (F0 m 21 ls [.int r_4])
  refine lv_if_eq (tgt := 32) hx hb d_BH_see_21 (by decide) (fun cd => ?_) (fun cd => ?_)
  · have hf := it_e cd hf
    exact t_BH_see_32 C  hf w (lv_sub hl [1] rfl)
  · have hf := if_e cd hf
    refine lv_aload_n hx hb d_BH_see_24 rfl (lv_at hl 1 rfl) ?_
    refine lv_iload_n hx hb d_BH_see_25 rfl (lv_at hl 0 rfl) ?_
    obtain ⟨r_6, h_5, hf⟩ := bp_e hf
    refine k_callV (As := [.int x_1]) (rest := []) C w (c_BH_canBeSeen (q := q) h_5) cv_BH_canBeSeen k1009 (xr_0 C w) (by decide) hl.1 rfl (Nat.le_of_ble_eq_true rfl) d_BH_see_26 (fun H locs w => ?_)
    show WK p l e s m _ below meth c 1 g (wX g q) A (some (.int r)) σ2 H locs (F0 m 29 ls [.int r_6])
    refine lv_if_ne (tgt := 44) hx hb d_BH_see_29 (by decide) (fun cd => ?_) (fun cd => ?_)
    · have hf := if_e cd hf
      refine lv_iconst (v := 0) hx hb d_BH_see_44 (by decide) ?_
      refine lv_istore_n (lv' := [(3, .int 0), (2, .int x_1), (0, .ref (q 0)), (1, .int x1)]) hx hb d_BH_see_45 rfl hl (by decide) rfl (fun ls hl => ?_)
      exact t_BH_see_46 C  FU x1 x_1 0 σ_2 _ _ _ hf w (lv_sub hl [2, 3, 1, 0] rfl)
    · have hf := it_e cd hf
      exact t_BH_see_32 C  hf w (lv_sub hl [1] rfl)
def f_BH_waysOfBlow_20b (k20 : Int32 → Int32 → Int32 → Int32 → St → Option (Int32)) (x1 : Int32) (x2 : Int32) (x3 : Int32) (x4 : Int32) (σ : St) : Option (Int32) :=
  if (sI σ 26) < x4 then
    some x3
  else
    bp (f_Turn_height x1 x4 x2 σ) fun r_2 =>
    gd (inB x1 4) <|
    if r_2 = (sA σ 28 x1.toNatClampNeg) then
      lt ((x3 + 1)) fun x_5 =>
      lt ((x4 + 1)) fun x_6 =>
      k20 x1 x2 x_5 x_6 σ
    else
      lt ((x4 + 1)) fun x_4 =>
      k20 x1 x2 x3 x_4 σ
def f_BH_waysOfBlow_20 : Nat → Int32 → Int32 → Int32 → Int32 → St → Option (Int32)
  | 0 => fun _ _ _ _ _ => none
  | n + 1 => f_BH_waysOfBlow_20b   (f_BH_waysOfBlow_20   n)
def f_BH_waysOfBlow (x1 : Int32) (x2 : Int32) (σ : St) : Option (Int32) :=
  if x1 < 0 then
    some 0
  else
    if x1 < 4 then
      f_BH_waysOfBlow_20 FU x1 x2 0 0 σ
    else
      some 0
set_option maxHeartbeats 4000000 in
set_option maxRecDepth 20000 in
theorem t_BH_waysOfBlow_20b {r : Int32} {σ : St} (C : Cx g A p s m av meth c prog_1_method_45_code 5 "BellHammer" (some .int)) {k20 : Int32 → Int32 → Int32 → Int32 → St → Option (Int32)} (hk20 : ∀ (x1 : Int32) (x2 : Int32) (x3 : Int32) (x4 : Int32) (H : Heap) (locs : List Loc) (ls : Array Slot), k20 x1 x2 x3 x4 σ = some r → Wd g (wX g q) A s σ H locs → lv_has ls 5 [(0, .ref (q 0)), (1, .int x1), (2, .int x2), (3, .int x3), (4, .int x4)] → WK p l e s m av below meth c 2 g (wX g q) A (some (.int r)) σ H locs (F0 m 20 ls []))  {x1 : Int32} {x2 : Int32} {x3 : Int32} {x4 : Int32} {H : Heap} {locs : List Loc} {ls : Array Slot} (hf : f_BH_waysOfBlow_20b  k20 x1 x2 x3 x4 σ = some r) (w : Wd g (wX g q) A s σ H locs) (hl : lv_has ls 5 [(0, .ref (q 0)), (1, .int x1), (2, .int x2), (3, .int x3), (4, .int x4)]) : WK p l e s m av below meth c 2 g (wX g q) A (some (.int r)) σ H locs (F0 m 20 ls []) := by
  obtain ⟨hx, hb, hml, hown, hts, hK, hA, hZ, hlocks, hr, hN⟩ := id C
  unfold f_BH_waysOfBlow_20b at hf
  refine lv_iload hx hb d_BH_waysOfBlow_20 (lv_at hl 4 rfl) ?_
  refine lv_aload_n hx hb d_BH_waysOfBlow_22 rfl (lv_at hl 0 rfl) ?_
  refine xg_0_turn C w k509 d_BH_waysOfBlow_23 ?_
  refine xg_23_aim C w k406 d_BH_waysOfBlow_26 ?_
  refine lv_icmp_gt (tgt := 61) hx hb d_BH_waysOfBlow_29 (by decide) (fun cd => ?_) (fun cd => ?_)
  · have hf := it_e cd hf
    refine lv_iload_n hx hb d_BH_waysOfBlow_61 rfl (lv_at hl 3 rfl) ?_
    cases some_e hf
    exact k_iret C w d_BH_waysOfBlow_62
  · have hf := if_e cd hf
    refine lv_aload_n hx hb d_BH_waysOfBlow_32 rfl (lv_at hl 0 rfl) ?_
    refine xg_0_turn C w k509 d_BH_waysOfBlow_33 ?_
    refine lv_iload_n hx hb d_BH_waysOfBlow_36 rfl (lv_at hl 1 rfl) ?_
    refine lv_iload hx hb d_BH_waysOfBlow_37 (lv_at hl 4 rfl) ?_
    refine lv_iload_n hx hb d_BH_waysOfBlow_39 rfl (lv_at hl 2 rfl) ?_
    obtain ⟨r_2, h_1, hf⟩ := bp_e hf
    refine k_callV (As := [.int x1, .int x4, .int x2]) (rest := []) C w (c_Turn_height (q := q) h_1) cv_Turn_height k766 (xr_23 C w) (by decide) hl.1 rfl (Nat.le_of_ble_eq_true rfl) d_BH_waysOfBlow_40 (fun H locs w => ?_)
    show WK p l e s m av below meth c 2 g (wX g q) A (some (.int r)) σ H locs (F0 m 43 ls [.int r_2])
    refine lv_aload_n hx hb d_BH_waysOfBlow_43 rfl (lv_at hl 0 rfl) ?_
    refine xg_0_seen C w k512 d_BH_waysOfBlow_44 ?_
    refine lv_iload_n hx hb d_BH_waysOfBlow_47 rfl (lv_at hl 1 rfl) ?_
    obtain ⟨g_3, hf⟩ := gd_e hf
    refine xl_42 C w g_3 d_BH_waysOfBlow_48 ?_
    refine lv_icmp_ne (tgt := 55) hx hb d_BH_waysOfBlow_49 (by decide) (fun cd => ?_) (fun cd => ?_)
    · have hf := if_e cd hf
      obtain ⟨x_4, ex_4⟩ : ∃ y : Int32, y = (x4 + 1) := ⟨_, rfl⟩
      have hf := lt_e ex_4 hf
      refine lv_iinc (v := x_4) (lv' := [(4, .int x_4), (0, .ref (q 0)), (1, .int x1), (2, .int x2), (3, .int x3)]) hx hb d_BH_waysOfBlow_55 hl (k := 4) rfl (by rw [ex_4]; rfl) (by decide) rfl (fun ls hl => ?_)
      refine lv_goto (tgt := 20) hx hb d_BH_waysOfBlow_58 (by decide) ?_
      exact hk20 x1 x2 x3 x_4  _ _ _ hf w (lv_sub hl [1, 2, 3, 4, 0] rfl)
    · have hf := it_e cd hf
      obtain ⟨x_5, ex_5⟩ : ∃ y : Int32, y = (x3 + 1) := ⟨_, rfl⟩
      have hf := lt_e ex_5 hf
      refine lv_iinc (v := x_5) (lv' := [(3, .int x_5), (0, .ref (q 0)), (1, .int x1), (2, .int x2), (4, .int x4)]) hx hb d_BH_waysOfBlow_52 hl (k := 3) rfl (by rw [ex_5]; rfl) (by decide) rfl (fun ls hl => ?_)
      obtain ⟨x_6, ex_6⟩ : ∃ y : Int32, y = (x4 + 1) := ⟨_, rfl⟩
      have hf := lt_e ex_6 hf
      refine lv_iinc (v := x_6) (lv' := [(4, .int x_6), (3, .int x_5), (0, .ref (q 0)), (1, .int x1), (2, .int x2)]) hx hb d_BH_waysOfBlow_55 hl (k := 4) rfl (by rw [ex_6]; rfl) (by decide) rfl (fun ls hl => ?_)
      refine lv_goto (tgt := 20) hx hb d_BH_waysOfBlow_58 (by decide) ?_
      exact hk20 x1 x2 x_5 x_6  _ _ _ hf w (lv_sub hl [2, 3, 4, 1, 0] rfl)
set_option maxHeartbeats 4000000 in
set_option maxRecDepth 20000 in
theorem t_BH_waysOfBlow_20 {r : Int32} {σ : St} (C : Cx g A p s m av meth c prog_1_method_45_code 5 "BellHammer" (some .int))  : ∀ (n : Nat) (x1 : Int32) (x2 : Int32) (x3 : Int32) (x4 : Int32) (H : Heap) (locs : List Loc) (ls : Array Slot), f_BH_waysOfBlow_20   n x1 x2 x3 x4 σ = some r → Wd g (wX g q) A s σ H locs → lv_has ls 5 [(0, .ref (q 0)), (1, .int x1), (2, .int x2), (3, .int x3), (4, .int x4)] → WK p l e s m av below meth c 2 g (wX g q) A (some (.int r)) σ H locs (F0 m 20 ls []) := by
  intro n
  induction n with
  | zero => intro x1 x2 x3 x4 H locs ls hf; exact absurd hf (by intro z; cases z)
  | succ n ih => intro x1 x2 x3 x4 H locs ls hf w hl; exact t_BH_waysOfBlow_20b C  ih hf w hl
set_option maxHeartbeats 4000000 in
set_option maxRecDepth 20000 in
theorem c_BH_waysOfBlow {l : Launch} {g : GX} {q : Nat → Nat} {x1 : Int32} {x2 : Int32}  {σ : St} {r : Int32} (hf : f_BH_waysOfBlow  x1 x2 σ = some r) : KK l y_BH_waysOfBlow prog_1_method_45_code 5 (some .int) 2 g (wX g q) σ [.ref (q 0), .int x1, .int x2] (some (.int r)) (wX g q) σ := by
  refine KK_of (plainFor_of_name (by decide)) (Nat.le_of_ble_eq_true rfl) (fun p e s m below meth c A ls C w hl => ?_)
  have hl : lv_has ls 5 [(0, .ref (q 0)), (1, .int x1), (2, .int x2)] := hl
  obtain ⟨hx, hb, hml, hown, hts, hK, hA, hZ, hlocks, hr, hN⟩ := id C
  unfold f_BH_waysOfBlow at hf
  refine lv_iload_n hx hb d_BH_waysOfBlow_0 rfl (lv_at hl 1 rfl) ?_
  refine lv_if_lt (tgt := 13) hx hb d_BH_waysOfBlow_1 (by decide) (fun cd => ?_) (fun cd => ?_)
  · have hf := it_e cd hf
    refine lv_iconst (v := 0) hx hb d_BH_waysOfBlow_13 (by decide) ?_
    cases some_e hf
    exact k_iret C w d_BH_waysOfBlow_14
  · have hf := if_e cd hf
    refine lv_iload_n hx hb d_BH_waysOfBlow_4 rfl (lv_at hl 1 rfl) ?_
    refine lv_aload_n hx hb d_BH_waysOfBlow_5 rfl (lv_at hl 0 rfl) ?_
    refine xg_0_seen C w k512 d_BH_waysOfBlow_6 ?_
    refine xn_42 C w d_BH_waysOfBlow_9 ?_
    refine lv_icmp_lt (tgt := 15) hx hb d_BH_waysOfBlow_10 (by decide) (fun cd => ?_) (fun cd => ?_)
    · have hf := it_e cd hf
      refine lv_iconst (v := 0) hx hb d_BH_waysOfBlow_15 (by decide) ?_
      refine lv_istore_n (lv' := [(3, .int 0), (0, .ref (q 0)), (1, .int x1), (2, .int x2)]) hx hb d_BH_waysOfBlow_16 rfl hl (by decide) rfl (fun ls hl => ?_)
      refine lv_iconst (v := 0) hx hb d_BH_waysOfBlow_17 (by decide) ?_
      refine lv_istore (lv' := [(4, .int 0), (3, .int 0), (0, .ref (q 0)), (1, .int x1), (2, .int x2)]) hx hb d_BH_waysOfBlow_18 hl (by decide) rfl (fun ls hl => ?_)
      exact t_BH_waysOfBlow_20 C  FU x1 x2 0 0  _ _ _ hf w (lv_sub hl [2, 3, 4, 1, 0] rfl)
    · have hf := if_e cd hf
      refine lv_iconst (v := 0) hx hb d_BH_waysOfBlow_13 (by decide) ?_
      cases some_e hf
      exact k_iret C w d_BH_waysOfBlow_14
def f_BH_waysSeen_4b (k4 : Int32 → Int32 → St → Option (Int32)) (x1 : Int32) (x2 : Int32) (σ : St) : Option (Int32) :=
  if (sI σ 0) ≤ x2 then
    some x1
  else
    bp (f_BH_waysOfBlow x2 0 σ) fun r_2 =>
    bp (f_BH_waysOfBlow x2 1 σ) fun r_4 =>
    lt ((x1 * (r_2 + r_4))) fun x_5 =>
    lt ((x2 + 1)) fun x_6 =>
    k4 x_5 x_6 σ
def f_BH_waysSeen_4 : Nat → Int32 → Int32 → St → Option (Int32)
  | 0 => fun _ _ _ => none
  | n + 1 => f_BH_waysSeen_4b   (f_BH_waysSeen_4   n)
def f_BH_waysSeen (σ : St) : Option (Int32) :=
  f_BH_waysSeen_4 FU 1 0 σ
set_option maxHeartbeats 4000000 in
set_option maxRecDepth 20000 in
theorem t_BH_waysSeen_4b {r : Int32} {σ : St} (C : Cx g A p s m av meth c prog_1_method_44_code 3 "BellHammer" (some .int)) {k4 : Int32 → Int32 → St → Option (Int32)} (hk4 : ∀ (x1 : Int32) (x2 : Int32) (H : Heap) (locs : List Loc) (ls : Array Slot), k4 x1 x2 σ = some r → Wd g (wX g q) A s σ H locs → lv_has ls 3 [(0, .ref (q 0)), (1, .int x1), (2, .int x2)] → WK p l e s m av below meth c 3 g (wX g q) A (some (.int r)) σ H locs (F0 m 4 ls []))  {x1 : Int32} {x2 : Int32} {H : Heap} {locs : List Loc} {ls : Array Slot} (hf : f_BH_waysSeen_4b  k4 x1 x2 σ = some r) (w : Wd g (wX g q) A s σ H locs) (hl : lv_has ls 3 [(0, .ref (q 0)), (1, .int x1), (2, .int x2)]) : WK p l e s m av below meth c 3 g (wX g q) A (some (.int r)) σ H locs (F0 m 4 ls []) := by
  obtain ⟨hx, hb, hml, hown, hts, hK, hA, hZ, hlocks, hr, hN⟩ := id C
  unfold f_BH_waysSeen_4b at hf
  refine lv_iload_n hx hb d_BH_waysSeen_4 rfl (lv_at hl 2 rfl) ?_
  refine lv_aload_n hx hb d_BH_waysSeen_5 rfl (lv_at hl 0 rfl) ?_
  refine xg_0_seenBlows C w k513 d_BH_waysSeen_6 ?_
  refine lv_icmp_ge (tgt := 34) hx hb d_BH_waysSeen_9 (by decide) (fun cd => ?_) (fun cd => ?_)
  · have hf := it_e cd hf
    refine lv_iload_n hx hb d_BH_waysSeen_34 rfl (lv_at hl 1 rfl) ?_
    cases some_e hf
    exact k_iret C w d_BH_waysSeen_35
  · have hf := if_e cd hf
    refine lv_iload_n hx hb d_BH_waysSeen_12 rfl (lv_at hl 1 rfl) ?_
    refine lv_aload_n hx hb d_BH_waysSeen_13 rfl (lv_at hl 0 rfl) ?_
    refine lv_iload_n hx hb d_BH_waysSeen_14 rfl (lv_at hl 2 rfl) ?_
    refine lv_iconst (v := 0) hx hb d_BH_waysSeen_15 (by decide) ?_
    obtain ⟨r_2, h_1, hf⟩ := bp_e hf
    refine k_callV (As := [.int x2, .int 0]) (rest := [.int x1]) C w (c_BH_waysOfBlow (q := q) h_1) cv_BH_waysOfBlow k1021 (xr_0 C w) (by decide) hl.1 rfl (Nat.le_of_ble_eq_true rfl) d_BH_waysSeen_16 (fun H locs w => ?_)
    show WK p l e s m av below meth c 3 g (wX g q) A (some (.int r)) σ H locs (F0 m 19 ls [.int r_2, .int x1])
    refine lv_aload_n hx hb d_BH_waysSeen_19 rfl (lv_at hl 0 rfl) ?_
    refine lv_iload_n hx hb d_BH_waysSeen_20 rfl (lv_at hl 2 rfl) ?_
    refine lv_iconst (v := 1) hx hb d_BH_waysSeen_21 (by decide) ?_
    obtain ⟨r_4, h_3, hf⟩ := bp_e hf
    refine k_callV (As := [.int x2, .int 1]) (rest := [.int r_2, .int x1]) C w (c_BH_waysOfBlow (q := q) h_3) cv_BH_waysOfBlow k1021 (xr_0 C w) (by decide) hl.1 rfl (Nat.le_of_ble_eq_true rfl) d_BH_waysSeen_22 (fun H locs w => ?_)
    show WK p l e s m av below meth c 3 g (wX g q) A (some (.int r)) σ H locs (F0 m 25 ls [.int r_4, .int r_2, .int x1])
    refine lv_iadd hx hb d_BH_waysSeen_25 ?_
    refine lv_imul hx hb d_BH_waysSeen_26 ?_
    refine lv_topi (fun x_5 ex_5 => ?_)
    have hf := lt_e ex_5 hf
    refine lv_istore_n (lv' := [(1, .int x_5), (0, .ref (q 0)), (2, .int x2)]) hx hb d_BH_waysSeen_27 rfl hl (by decide) rfl (fun ls hl => ?_)
    obtain ⟨x_6, ex_6⟩ : ∃ y : Int32, y = (x2 + 1) := ⟨_, rfl⟩
    have hf := lt_e ex_6 hf
    refine lv_iinc (v := x_6) (lv' := [(2, .int x_6), (1, .int x_5), (0, .ref (q 0))]) hx hb d_BH_waysSeen_28 hl (k := 2) rfl (by rw [ex_6]; rfl) (by decide) rfl (fun ls hl => ?_)
    refine lv_goto (tgt := 4) hx hb d_BH_waysSeen_31 (by decide) ?_
    exact hk4 x_5 x_6  _ _ _ hf w (lv_sub hl [2, 1, 0] rfl)
set_option maxHeartbeats 4000000 in
set_option maxRecDepth 20000 in
theorem t_BH_waysSeen_4 {r : Int32} {σ : St} (C : Cx g A p s m av meth c prog_1_method_44_code 3 "BellHammer" (some .int))  : ∀ (n : Nat) (x1 : Int32) (x2 : Int32) (H : Heap) (locs : List Loc) (ls : Array Slot), f_BH_waysSeen_4   n x1 x2 σ = some r → Wd g (wX g q) A s σ H locs → lv_has ls 3 [(0, .ref (q 0)), (1, .int x1), (2, .int x2)] → WK p l e s m av below meth c 3 g (wX g q) A (some (.int r)) σ H locs (F0 m 4 ls []) := by
  intro n
  induction n with
  | zero => intro x1 x2 H locs ls hf; exact absurd hf (by intro z; cases z)
  | succ n ih => intro x1 x2 H locs ls hf w hl; exact t_BH_waysSeen_4b C  ih hf w hl
set_option maxHeartbeats 4000000 in
set_option maxRecDepth 20000 in
theorem c_BH_waysSeen {l : Launch} {g : GX} {q : Nat → Nat}  {σ : St} {r : Int32} (hf : f_BH_waysSeen   σ = some r) : KK l y_BH_waysSeen prog_1_method_44_code 3 (some .int) 3 g (wX g q) σ [.ref (q 0)] (some (.int r)) (wX g q) σ := by
  refine KK_of (plainFor_of_name (by decide)) (Nat.le_of_ble_eq_true rfl) (fun p e s m below meth c A ls C w hl => ?_)
  have hl : lv_has ls 3 [(0, .ref (q 0))] := hl
  obtain ⟨hx, hb, hml, hown, hts, hK, hA, hZ, hlocks, hr, hN⟩ := id C
  unfold f_BH_waysSeen at hf
  refine lv_iconst (v := 1) hx hb d_BH_waysSeen_0 (by decide) ?_
  refine lv_istore_n (lv' := [(1, .int 1), (0, .ref (q 0))]) hx hb d_BH_waysSeen_1 rfl hl (by decide) rfl (fun ls hl => ?_)
  refine lv_iconst (v := 0) hx hb d_BH_waysSeen_2 (by decide) ?_
  refine lv_istore_n (lv' := [(2, .int 0), (1, .int 1), (0, .ref (q 0))]) hx hb d_BH_waysSeen_3 rfl hl (by decide) rfl (fun ls hl => ?_)
  exact t_BH_waysSeen_4 C  FU 1 0  _ _ _ hf w (lv_sub hl [2, 1, 0] rfl)
def f_BH_was (x1 : Int32) (σ : St) : Option (Int32 × St) :=
  if (sI σ 0) = 0 then
    some ((-1), σ)
  else
    if x1 < (-1) then
      some ((-1), σ)
    else
      if x1 < (sI σ 0) then
        bp (f_Turn_load (sI σ 1) σ) fun σ_2 =>
        bp (f_BH_waysSeen σ_2) fun r_4 =>
        if x1 = (-1) then
          some (r_4, σ_2)
        else
          bp (f_BH_waysOfBlow x1 1 σ_2) fun r_6 =>
          bp (f_BH_waysOfBlow x1 0 σ_2) fun r_8 =>
          lt ((r_6 + r_8)) fun x_9 =>
          if r_4 = 0 then
            some (0, σ_2)
          else
            if x_9 = 0 then
              some (0, σ_2)
            else
              gd (nz x_9) <|
              some (((1000 * r_6) / x_9), σ_2)
      else
        some ((-1), σ)
set_option maxHeartbeats 4000000 in
set_option maxRecDepth 20000 in
theorem c_BH_was {l : Launch} {g : GX} {q : Nat → Nat} {x1 : Int32}  {σ : St} {r : Int32} {σ2 : St} (hf : f_BH_was  x1 σ = some (r, σ2)) : KK l y_BH_was prog_1_method_26_code 5 (some .int) 4 g (wX g q) σ [.ref (q 0), .int x1] (some (.int r)) (wX g q) σ2 := by
  refine KK_of (plainFor_of_name (by decide)) (Nat.le_of_ble_eq_true rfl) (fun p e s m below meth c A ls C w hl => ?_)
  have hl : lv_has ls 5 [(0, .ref (q 0)), (1, .int x1)] := hl
  obtain ⟨hx, hb, hml, hown, hts, hK, hA, hZ, hlocks, hr, hN⟩ := id C
  unfold f_BH_was at hf
  refine lv_aload_n hx hb d_BH_was_0 rfl (lv_at hl 0 rfl) ?_
  refine xg_0_seenBlows C w k513 d_BH_was_1 ?_
  refine lv_if_eq (tgt := 20) hx hb d_BH_was_4 (by decide) (fun cd => ?_) (fun cd => ?_)
  · have hf := it_e cd hf
    refine lv_iconst (v := (-1)) hx hb d_BH_was_20 (by decide) ?_
    obtain ⟨rfl, rfl⟩ := some2_e hf
    exact k_iret C w d_BH_was_21
  · have hf := if_e cd hf
    refine lv_iload_n hx hb d_BH_was_7 rfl (lv_at hl 1 rfl) ?_
    refine lv_iconst (v := (-1)) hx hb d_BH_was_8 (by decide) ?_
    refine lv_icmp_lt (tgt := 20) hx hb d_BH_was_9 (by decide) (fun cd => ?_) (fun cd => ?_)
    · have hf := it_e cd hf
      refine lv_iconst (v := (-1)) hx hb d_BH_was_20 (by decide) ?_
      obtain ⟨rfl, rfl⟩ := some2_e hf
      exact k_iret C w d_BH_was_21
    · have hf := if_e cd hf
      refine lv_iload_n hx hb d_BH_was_12 rfl (lv_at hl 1 rfl) ?_
      refine lv_aload_n hx hb d_BH_was_13 rfl (lv_at hl 0 rfl) ?_
      refine xg_0_seenBlows C w k513 d_BH_was_14 ?_
      refine lv_icmp_lt (tgt := 22) hx hb d_BH_was_17 (by decide) (fun cd => ?_) (fun cd => ?_)
      · have hf := it_e cd hf
        refine lv_aload_n hx hb d_BH_was_22 rfl (lv_at hl 0 rfl) ?_
        refine xg_0_turn C w k509 d_BH_was_23 ?_
        refine lv_aload_n hx hb d_BH_was_26 rfl (lv_at hl 0 rfl) ?_
        refine xg_0_fair C w k511 d_BH_was_27 ?_
        refine lv_aload_n hx hb d_BH_was_30 rfl (lv_at hl 0 rfl) ?_
        refine xg_0_seenTrier C w k514 d_BH_was_31 ?_
        refine lv_aload_n hx hb d_BH_was_34 rfl (lv_at hl 0 rfl) ?_
        refine xg_0_book C w k507 d_BH_was_35 ?_
        refine xg_14_now C w k342 d_BH_was_38 ?_
        obtain ⟨σ_2, h_1, hf⟩ := bp_e hf
        refine k_callV (As := [.ref (q 34), .int (sI σ 1), .ref (q 15)]) (rest := []) C w (c_Turn_load (q := q) h_1) cv_Turn_load k760 (xr_23 C w) (by decide) hl.1 rfl (Nat.le_of_ble_eq_true rfl) d_BH_was_41 (fun H locs w => ?_)
        show WK p l e s m _ below meth c 4 g (wX g q) A (some (.int r)) σ2 H locs (F0 m 44 ls [])
        refine lv_aload_n hx hb d_BH_was_44 rfl (lv_at hl 0 rfl) ?_
        obtain ⟨r_4, h_3, hf⟩ := bp_e hf
        refine k_callV (As := []) (rest := []) C w (c_BH_waysSeen (q := q) h_3) cv_BH_waysSeen k1017 (xr_0 C w) (by decide) hl.1 rfl (Nat.le_of_ble_eq_true rfl) d_BH_was_45 (fun H locs w => ?_)
        show WK p l e s m _ below meth c 4 g (wX g q) A (some (.int r)) σ2 H locs (F0 m 48 ls [.int r_4])
        refine lv_istore_n (lv' := [(2, .int r_4), (0, .ref (q 0)), (1, .int x1)]) hx hb d_BH_was_48 rfl hl (by decide) rfl (fun ls hl => ?_)
        refine lv_iload_n hx hb d_BH_was_49 rfl (lv_at hl 2 rfl) ?_
        refine lv_iconst (v := (-1)) hx hb d_BH_was_50 (by decide) ?_
        refine lv_icmp_ne (tgt := 56) hx hb d_BH_was_51 (by decide) (fun cd => ?_) (fun cd => ?_)
        · have hf := if_e cd hf
          refine lv_aload_n hx hb d_BH_was_56 rfl (lv_at hl 1 rfl) ?_
          refine lv_iload_n hx hb d_BH_was_57 rfl (lv_at hl 2 rfl) ?_
          refine lv_iconst (v := 1) hx hb d_BH_was_58 (by decide) ?_
          obtain ⟨r_6, h_5, hf⟩ := bp_e hf
          refine k_callV (As := [.int x1, .int 1]) (rest := []) C w (c_BH_waysOfBlow (q := q) h_5) cv_BH_waysOfBlow k1021 (xr_0 C w) (by decide) hl.1 rfl (Nat.le_of_ble_eq_true rfl) d_BH_was_59 (fun H locs w => ?_)
          show WK p l e s m _ below meth c 4 g (wX g q) A (some (.int r)) σ2 H locs (F0 m 62 ls [.int r_6])
          refine lv_istore_n (lv' := [(3, .int r_6), (2, .int r_4), (0, .ref (q 0)), (1, .int x1)]) hx hb d_BH_was_62 rfl hl (by decide) rfl (fun ls hl => ?_)
          refine lv_iload_n hx hb d_BH_was_63 rfl (lv_at hl 0 rfl) ?_
          refine lv_aload_n hx hb d_BH_was_64 rfl (lv_at hl 2 rfl) ?_
          refine lv_iload_n hx hb d_BH_was_65 rfl (lv_at hl 3 rfl) ?_
          refine lv_iconst (v := 0) hx hb d_BH_was_66 (by decide) ?_
          obtain ⟨r_8, h_7, hf⟩ := bp_e hf
          refine k_callV (As := [.int x1, .int 0]) (rest := [.int r_6]) C w (c_BH_waysOfBlow (q := q) h_7) cv_BH_waysOfBlow k1021 (xr_0 C w) (by decide) hl.1 rfl (Nat.le_of_ble_eq_true rfl) d_BH_was_67 (fun H locs w => ?_)
          show WK p l e s m _ below meth c 4 g (wX g q) A (some (.int r)) σ2 H locs (F0 m 70 ls [.int r_8, .int r_6])
          refine lv_iadd hx hb d_BH_was_70 ?_
          refine lv_topi (fun x_9 ex_9 => ?_)
          have hf := lt_e ex_9 hf
          refine lv_istore (lv' := [(4, .int x_9), (3, .int r_6), (2, .int r_4), (0, .ref (q 0)), (1, .int x1)]) hx hb d_BH_was_71 hl (by decide) rfl (fun ls hl => ?_)
          refine lv_iload_n hx hb d_BH_was_73 rfl (lv_at hl 2 rfl) ?_
          refine lv_if_eq (tgt := 82) hx hb d_BH_was_74 (by decide) (fun cd => ?_) (fun cd => ?_)
          · have hf := it_e cd hf
            refine lv_iconst (v := 0) hx hb d_BH_was_82 (by decide) ?_
            refine lv_goto (tgt := 94) hx hb d_BH_was_83 (by decide) ?_
            obtain ⟨rfl, rfl⟩ := some2_e hf
            exact k_iret C w d_BH_was_94
          · have hf := if_e cd hf
            refine lv_iload hx hb d_BH_was_77 (lv_at hl 0 rfl) ?_
            refine lv_if_ne (tgt := 86) hx hb d_BH_was_79 (by decide) (fun cd => ?_) (fun cd => ?_)
            · have hf := if_e cd hf
              refine lv_sipush (v := 1000) hx hb d_BH_was_86 (by decide) ?_
              refine lv_iload_n hx hb d_BH_was_89 rfl (lv_at hl 1 rfl) ?_
              refine lv_imul hx hb d_BH_was_90 ?_
              refine lv_iload hx hb d_BH_was_91 (lv_at hl 0 rfl) ?_
              obtain ⟨g_10, hf⟩ := gd_e hf
              refine lv_idiv hx hb d_BH_was_93 (nz_e g_10) ?_
              obtain ⟨rfl, rfl⟩ := some2_e hf
              exact k_iret C w d_BH_was_94
            · have hf := it_e cd hf
              refine lv_iconst (v := 0) hx hb d_BH_was_82 (by decide) ?_
              refine lv_goto (tgt := 94) hx hb d_BH_was_83 (by decide) ?_
              obtain ⟨rfl, rfl⟩ := some2_e hf
              exact k_iret C w d_BH_was_94
        · have hf := it_e cd hf
          refine lv_iload_n hx hb d_BH_was_54 rfl (lv_at hl 0 rfl) ?_
          obtain ⟨rfl, rfl⟩ := some2_e hf
          exact k_iret C w d_BH_was_55
      · have hf := if_e cd hf
        refine lv_iconst (v := (-1)) hx hb d_BH_was_20 (by decide) ?_
        obtain ⟨rfl, rfl⟩ := some2_e hf
        exact k_iret C w d_BH_was_21
def f_BH_strong_87 (k50 : Int32 → Int32 → Int32 → Int32 → Int32 → St → Option (Int32 × St)) (x1 : Int32) (x2 : Int32) (x5 : Int32) (t0 : Int32) (σ : St) : Option (Int32 × St) :=
  lt ((x5 + 1)) fun x_1 =>
  k50 x1 x2 t0 x5 x_1 σ
def f_BH_strong_50b (k50 : Int32 → Int32 → Int32 → Int32 → Int32 → St → Option (Int32 × St)) (x1 : Int32) (x2 : Int32) (x3 : Int32) (x4 : Int32) (x5 : Int32) (σ : St) : Option (Int32 × St) :=
  if 99 < x5 then
    if x1 = 0 then
      some (x2, σ)
    else
      if x1 = 1 then
        some (x3, σ)
      else
        some (x4, σ)
  else
    lt (uI σ 25 x5) fun σ_1 =>
    bp (f_BH_waysSeen σ_1) fun r_3 =>
    if r_3 ≤ 0 then
      lt ((x5 + 1)) fun x_4 =>
      k50 x1 x2 x3 x4 x_4 σ_1
    else
      lt ((x2 + 1)) fun x_5 =>
      if x3 = (-1) then
        f_BH_strong_87 k50 x1 x_5 x5 x5 σ_1
      else
        f_BH_strong_87 k50 x1 x_5 x5 x3 σ_1
def f_BH_strong_50 : Nat → Int32 → Int32 → Int32 → Int32 → Int32 → St → Option (Int32 × St)
  | 0 => fun _ _ _ _ _ _ => none
  | n + 1 => f_BH_strong_50b   (f_BH_strong_50   n)
def f_BH_strong (x1 : Int32) (σ : St) : Option (Int32 × St) :=
  if (sI σ 0) = 0 then
    some ((-1), σ)
  else
    if x1 < 0 then
      some ((-1), σ)
    else
      if x1 ≤ 2 then
        bp (f_Turn_load (sI σ 1) σ) fun σ_2 =>
        f_BH_strong_50 FU x1 0 (-1) (-1) 1 σ_2
      else
        some ((-1), σ)
set_option maxHeartbeats 4000000 in
set_option maxRecDepth 20000 in
theorem t_BH_strong_87 {r : Int32} {σ2 : St} (C : Cx g A p s m av meth c prog_1_method_27_code 6 "BellHammer" (some .int)) {k50 : Int32 → Int32 → Int32 → Int32 → Int32 → St → Option (Int32 × St)} (hk50 : ∀ (x1 : Int32) (x2 : Int32) (x3 : Int32) (x4 : Int32) (x5 : Int32) (σ : St) (H : Heap) (locs : List Loc) (ls : Array Slot), k50 x1 x2 x3 x4 x5 σ = some (r, σ2) → Wd g (wX g q) A s σ H locs → lv_has ls 6 [(0, .ref (q 0)), (1, .int x1), (2, .int x2), (3, .int x3), (4, .int x4), (5, .int x5)] → WK p l e s m av below meth c 4 g (wX g q) A (some (.int r)) σ2 H locs (F0 m 50 ls []))  {x1 : Int32} {x2 : Int32} {x5 : Int32} {t0 : Int32} {σ : St} {H : Heap} {locs : List Loc} {ls : Array Slot} (hf : f_BH_strong_87  k50 x1 x2 x5 t0 σ = some (r, σ2)) (w : Wd g (wX g q) A s σ H locs) (hl : lv_has ls 6 [(0, .ref (q 0)), (1, .int x1), (2, .int x2), (5, .int x5)]) : WK p l e s m av below meth c 4 g (wX g q) A (some (.int r)) σ2 H locs (F0 m 87 ls [.int t0]) := by
  obtain ⟨hx, hb, hml, hown, hts, hK, hA, hZ, hlocks, hr, hN⟩ := id C
  unfold f_BH_strong_87 at hf
  refine lv_istore_n (lv' := [(3, .int t0), (0, .ref (q 0)), (1, .int x1), (2, .int x2), (5, .int x5)]) hx hb d_BH_strong_87 rfl hl (by decide) rfl (fun ls hl => ?_)
  refine lv_iload hx hb d_BH_strong_88 (lv_at hl 4 rfl) ?_
  refine lv_istore (lv' := [(4, .int x5), (3, .int t0), (0, .ref (q 0)), (1, .int x1), (2, .int x2), (5, .int x5)]) hx hb d_BH_strong_90 hl (by decide) rfl (fun ls hl => ?_)
  obtain ⟨x_1, ex_1⟩ : ∃ y : Int32, y = (x5 + 1) := ⟨_, rfl⟩
  have hf := lt_e ex_1 hf
  refine lv_iinc (v := x_1) (lv' := [(5, .int x_1), (4, .int x5), (3, .int t0), (0, .ref (q 0)), (1, .int x1), (2, .int x2)]) hx hb d_BH_strong_92 hl (k := 5) rfl (by rw [ex_1]; rfl) (by decide) rfl (fun ls hl => ?_)
  refine lv_goto (tgt := 50) hx hb d_BH_strong_95 (by decide) ?_
  exact hk50 x1 x2 t0 x5 x_1 σ _ _ _ hf w (lv_sub hl [3, 4, 5, 2, 1, 0] rfl)
set_option maxHeartbeats 4000000 in
set_option maxRecDepth 20000 in
theorem t_BH_strong_50b {r : Int32} {σ2 : St} (C : Cx g A p s m av meth c prog_1_method_27_code 6 "BellHammer" (some .int)) {k50 : Int32 → Int32 → Int32 → Int32 → Int32 → St → Option (Int32 × St)} (hk50 : ∀ (x1 : Int32) (x2 : Int32) (x3 : Int32) (x4 : Int32) (x5 : Int32) (σ : St) (H : Heap) (locs : List Loc) (ls : Array Slot), k50 x1 x2 x3 x4 x5 σ = some (r, σ2) → Wd g (wX g q) A s σ H locs → lv_has ls 6 [(0, .ref (q 0)), (1, .int x1), (2, .int x2), (3, .int x3), (4, .int x4), (5, .int x5)] → WK p l e s m av below meth c 4 g (wX g q) A (some (.int r)) σ2 H locs (F0 m 50 ls []))  {x1 : Int32} {x2 : Int32} {x3 : Int32} {x4 : Int32} {x5 : Int32} {σ : St} {H : Heap} {locs : List Loc} {ls : Array Slot} (hf : f_BH_strong_50b  k50 x1 x2 x3 x4 x5 σ = some (r, σ2)) (w : Wd g (wX g q) A s σ H locs) (hl : lv_has ls 6 [(0, .ref (q 0)), (1, .int x1), (2, .int x2), (3, .int x3), (4, .int x4), (5, .int x5)]) : WK p l e s m av below meth c 4 g (wX g q) A (some (.int r)) σ2 H locs (F0 m 50 ls []) := by
  obtain ⟨hx, hb, hml, hown, hts, hK, hA, hZ, hlocks, hr, hN⟩ := id C
  unfold f_BH_strong_50b at hf
  refine lv_iload hx hb d_BH_strong_50 (lv_at hl 5 rfl) ?_
  refine lv_bipush (v := 99) hx hb d_BH_strong_52 (by decide) ?_
  refine lv_icmp_gt (tgt := 98) hx hb d_BH_strong_54 (by decide) (fun cd => ?_) (fun cd => ?_)
  · have hf := it_e cd hf
    refine lv_iload_n hx hb d_BH_strong_98 rfl (lv_at hl 1 rfl) ?_
    refine lv_if_ne (tgt := 104) hx hb d_BH_strong_99 (by decide) (fun cd => ?_) (fun cd => ?_)
    · have hf := if_e cd hf
      refine lv_iload_n hx hb d_BH_strong_104 rfl (lv_at hl 1 rfl) ?_
      refine lv_iconst (v := 1) hx hb d_BH_strong_105 (by decide) ?_
      refine lv_icmp_ne (tgt := 113) hx hb d_BH_strong_106 (by decide) (fun cd => ?_) (fun cd => ?_)
      · have hf := if_e cd hf
        refine lv_iload hx hb d_BH_strong_113 (lv_at hl 4 rfl) ?_
        obtain ⟨rfl, rfl⟩ := some2_e hf
        exact k_iret C w d_BH_strong_115
      · have hf := it_e cd hf
        refine lv_iload_n hx hb d_BH_strong_109 rfl (lv_at hl 3 rfl) ?_
        refine lv_goto (tgt := 115) hx hb d_BH_strong_110 (by decide) ?_
        obtain ⟨rfl, rfl⟩ := some2_e hf
        exact k_iret C w d_BH_strong_115
    · have hf := it_e cd hf
      refine lv_iload_n hx hb d_BH_strong_102 rfl (lv_at hl 2 rfl) ?_
      obtain ⟨rfl, rfl⟩ := some2_e hf
      exact k_iret C w d_BH_strong_103
  · have hf := if_e cd hf
    refine lv_aload_n hx hb d_BH_strong_57 rfl (lv_at hl 0 rfl) ?_
    refine xg_0_turn C w k509 d_BH_strong_58 ?_
    refine lv_iload hx hb d_BH_strong_61 (lv_at hl 5 rfl) ?_
    refine xp_23_force C w k403 d_BH_strong_63 (fun σ_1 H locs eσ_1 w => ?_)
    have hf := lt_e eσ_1 hf
    refine lv_aload_n hx hb d_BH_strong_66 rfl (lv_at hl 0 rfl) ?_
    obtain ⟨r_3, h_2, hf⟩ := bp_e hf
    refine k_callV (As := []) (rest := []) C w (c_BH_waysSeen (q := q) h_2) cv_BH_waysSeen k1017 (xr_0 C w) (by decide) hl.1 rfl (Nat.le_of_ble_eq_true rfl) d_BH_strong_67 (fun H locs w => ?_)
    show WK p l e s m av below meth c 4 g (wX g q) A (some (.int r)) σ2 H locs (F0 m 70 ls [.int r_3])
    refine lv_if_le (tgt := 92) hx hb d_BH_strong_70 (by decide) (fun cd => ?_) (fun cd => ?_)
    · have hf := it_e cd hf
      obtain ⟨x_4, ex_4⟩ : ∃ y : Int32, y = (x5 + 1) := ⟨_, rfl⟩
      have hf := lt_e ex_4 hf
      refine lv_iinc (v := x_4) (lv' := [(5, .int x_4), (0, .ref (q 0)), (1, .int x1), (2, .int x2), (3, .int x3), (4, .int x4)]) hx hb d_BH_strong_92 hl (k := 5) rfl (by rw [ex_4]; rfl) (by decide) rfl (fun ls hl => ?_)
      refine lv_goto (tgt := 50) hx hb d_BH_strong_95 (by decide) ?_
      exact hk50 x1 x2 x3 x4 x_4 σ_1 _ _ _ hf w (lv_sub hl [1, 2, 3, 4, 5, 0] rfl)
    · have hf := if_e cd hf
      obtain ⟨x_5, ex_5⟩ : ∃ y : Int32, y = (x2 + 1) := ⟨_, rfl⟩
      have hf := lt_e ex_5 hf
      refine lv_iinc (v := x_5) (lv' := [(2, .int x_5), (0, .ref (q 0)), (1, .int x1), (3, .int x3), (4, .int x4), (5, .int x5)]) hx hb d_BH_strong_73 hl (k := 2) rfl (by rw [ex_5]; rfl) (by decide) rfl (fun ls hl => ?_)
      refine lv_iload_n hx hb d_BH_strong_76 rfl (lv_at hl 3 rfl) ?_
      refine lv_iconst (v := (-1)) hx hb d_BH_strong_77 (by decide) ?_
      refine lv_icmp_ne (tgt := 86) hx hb d_BH_strong_78 (by decide) (fun cd => ?_) (fun cd => ?_)
      · have hf := if_e cd hf
        refine lv_iload_n hx hb d_BH_strong_86 rfl (lv_at hl 3 rfl) ?_
        exact t_BH_strong_87 C hk50 hf w (lv_sub hl [1, 2, 0, 5] rfl)
      · have hf := it_e cd hf
        refine lv_iload hx hb d_BH_strong_81 (lv_at hl 5 rfl) ?_
        refine lv_goto (tgt := 87) hx hb d_BH_strong_83 (by decide) ?_
        exact t_BH_strong_87 C hk50 hf w (lv_sub hl [1, 2, 0, 5] rfl)
set_option maxHeartbeats 4000000 in
set_option maxRecDepth 20000 in
theorem t_BH_strong_50 {r : Int32} {σ2 : St} (C : Cx g A p s m av meth c prog_1_method_27_code 6 "BellHammer" (some .int))  : ∀ (n : Nat) (x1 : Int32) (x2 : Int32) (x3 : Int32) (x4 : Int32) (x5 : Int32) (σ : St) (H : Heap) (locs : List Loc) (ls : Array Slot), f_BH_strong_50   n x1 x2 x3 x4 x5 σ = some (r, σ2) → Wd g (wX g q) A s σ H locs → lv_has ls 6 [(0, .ref (q 0)), (1, .int x1), (2, .int x2), (3, .int x3), (4, .int x4), (5, .int x5)] → WK p l e s m av below meth c 4 g (wX g q) A (some (.int r)) σ2 H locs (F0 m 50 ls []) := by
  intro n
  induction n with
  | zero => intro x1 x2 x3 x4 x5 σ H locs ls hf; exact absurd hf (by intro z; cases z)
  | succ n ih => intro x1 x2 x3 x4 x5 σ H locs ls hf w hl; exact t_BH_strong_50b C  ih hf w hl
set_option maxHeartbeats 4000000 in
set_option maxRecDepth 20000 in
theorem c_BH_strong {l : Launch} {g : GX} {q : Nat → Nat} {x1 : Int32}  {σ : St} {r : Int32} {σ2 : St} (hf : f_BH_strong  x1 σ = some (r, σ2)) : KK l y_BH_strong prog_1_method_27_code 6 (some .int) 4 g (wX g q) σ [.ref (q 0), .int x1] (some (.int r)) (wX g q) σ2 := by
  refine KK_of (plainFor_of_name (by decide)) (Nat.le_of_ble_eq_true rfl) (fun p e s m below meth c A ls C w hl => ?_)
  have hl : lv_has ls 6 [(0, .ref (q 0)), (1, .int x1)] := hl
  obtain ⟨hx, hb, hml, hown, hts, hK, hA, hZ, hlocks, hr, hN⟩ := id C
  unfold f_BH_strong at hf
  refine lv_aload_n hx hb d_BH_strong_0 rfl (lv_at hl 0 rfl) ?_
  refine xg_0_seenBlows C w k513 d_BH_strong_1 ?_
  refine lv_if_eq (tgt := 16) hx hb d_BH_strong_4 (by decide) (fun cd => ?_) (fun cd => ?_)
  · have hf := it_e cd hf
    refine lv_iconst (v := (-1)) hx hb d_BH_strong_16 (by decide) ?_
    obtain ⟨rfl, rfl⟩ := some2_e hf
    exact k_iret C w d_BH_strong_17
  · have hf := if_e cd hf
    refine lv_iload_n hx hb d_BH_strong_7 rfl (lv_at hl 1 rfl) ?_
    refine lv_if_lt (tgt := 16) hx hb d_BH_strong_8 (by decide) (fun cd => ?_) (fun cd => ?_)
    · have hf := it_e cd hf
      refine lv_iconst (v := (-1)) hx hb d_BH_strong_16 (by decide) ?_
      obtain ⟨rfl, rfl⟩ := some2_e hf
      exact k_iret C w d_BH_strong_17
    · have hf := if_e cd hf
      refine lv_iload_n hx hb d_BH_strong_11 rfl (lv_at hl 1 rfl) ?_
      refine lv_iconst (v := 2) hx hb d_BH_strong_12 (by decide) ?_
      refine lv_icmp_le (tgt := 18) hx hb d_BH_strong_13 (by decide) (fun cd => ?_) (fun cd => ?_)
      · have hf := it_e cd hf
        refine lv_aload_n hx hb d_BH_strong_18 rfl (lv_at hl 0 rfl) ?_
        refine xg_0_turn C w k509 d_BH_strong_19 ?_
        refine lv_aload_n hx hb d_BH_strong_22 rfl (lv_at hl 0 rfl) ?_
        refine xg_0_fair C w k511 d_BH_strong_23 ?_
        refine lv_aload_n hx hb d_BH_strong_26 rfl (lv_at hl 0 rfl) ?_
        refine xg_0_seenTrier C w k514 d_BH_strong_27 ?_
        refine lv_aload_n hx hb d_BH_strong_30 rfl (lv_at hl 0 rfl) ?_
        refine xg_0_book C w k507 d_BH_strong_31 ?_
        refine xg_14_now C w k342 d_BH_strong_34 ?_
        obtain ⟨σ_2, h_1, hf⟩ := bp_e hf
        refine k_callV (As := [.ref (q 34), .int (sI σ 1), .ref (q 15)]) (rest := []) C w (c_Turn_load (q := q) h_1) cv_Turn_load k760 (xr_23 C w) (by decide) hl.1 rfl (Nat.le_of_ble_eq_true rfl) d_BH_strong_37 (fun H locs w => ?_)
        show WK p l e s m _ below meth c 4 g (wX g q) A (some (.int r)) σ2 H locs (F0 m 40 ls [])
        refine lv_iconst (v := 0) hx hb d_BH_strong_40 (by decide) ?_
        refine lv_istore_n (lv' := [(2, .int 0), (0, .ref (q 0)), (1, .int x1)]) hx hb d_BH_strong_41 rfl hl (by decide) rfl (fun ls hl => ?_)
        refine lv_iconst (v := (-1)) hx hb d_BH_strong_42 (by decide) ?_
        refine lv_istore_n (lv' := [(3, .int (-1)), (2, .int 0), (0, .ref (q 0)), (1, .int x1)]) hx hb d_BH_strong_43 rfl hl (by decide) rfl (fun ls hl => ?_)
        refine lv_iconst (v := (-1)) hx hb d_BH_strong_44 (by decide) ?_
        refine lv_istore (lv' := [(4, .int (-1)), (3, .int (-1)), (2, .int 0), (0, .ref (q 0)), (1, .int x1)]) hx hb d_BH_strong_45 hl (by decide) rfl (fun ls hl => ?_)
        refine lv_iconst (v := 1) hx hb d_BH_strong_47 (by decide) ?_
        refine lv_istore (lv' := [(5, .int 1), (4, .int (-1)), (3, .int (-1)), (2, .int 0), (0, .ref (q 0)), (1, .int x1)]) hx hb d_BH_strong_48 hl (by decide) rfl (fun ls hl => ?_)
        exact t_BH_strong_50 C  FU x1 0 (-1) (-1) 1 σ_2 _ _ _ hf w (lv_sub hl [4, 5, 3, 2, 1, 0] rfl)
      · have hf := if_e cd hf
        refine lv_iconst (v := (-1)) hx hb d_BH_strong_16 (by decide) ?_
        obtain ⟨rfl, rfl⟩ := some2_e hf
        exact k_iret C w d_BH_strong_17
def f_BH_next_51b (k51 : Int32 → Int32 → Int32 → St → Option (Int32 × St)) (x1 : Int32) (x2 : Int32) (x3 : Int32) (σ : St) : Option (Int32 × St) :=
  if (sI σ 26) < x3 then
    lt (((sI σ 26) + 1)) fun x_1 =>
    if 0 < x_1 then
      gd (nz x_1) <|
      some (((1000 * x2) / x_1), σ)
    else
      some ((-1), σ)
  else
    bp (f_Turn_height (sI σ 0) x3 x1 σ) fun r_4 =>
    bp (f_Turn_isRing_2 r_4 σ) fun r_6 =>
    if r_6 = 0 then
      lt ((x3 + 1)) fun x_7 =>
      k51 x1 x2 x_7 σ
    else
      lt ((x2 + 1)) fun x_8 =>
      lt ((x3 + 1)) fun x_9 =>
      k51 x1 x_8 x_9 σ
def f_BH_next_51 : Nat → Int32 → Int32 → Int32 → St → Option (Int32 × St)
  | 0 => fun _ _ _ _ => none
  | n + 1 => f_BH_next_51b   (f_BH_next_51   n)
def f_BH_next (x1 : Int32) (σ : St) : Option (Int32 × St) :=
  if (sI σ 0) = 0 then
    some ((-1), σ)
  else
    if (sI σ 0) < (sA σ 25 (3 : Int32).toNatClampNeg) then
      bp (f_Turn_load (sI σ 1) σ) fun σ_2 =>
      f_BH_next_51 FU x1 0 0 σ_2
    else
      some ((-1), σ)
set_option maxHeartbeats 4000000 in
set_option maxRecDepth 20000 in
theorem t_BH_next_51b {r : Int32} {σ2 : St} (C : Cx g A p s m av meth c prog_1_method_28_code 4 "BellHammer" (some .int)) {k51 : Int32 → Int32 → Int32 → St → Option (Int32 × St)} (hk51 : ∀ (x1 : Int32) (x2 : Int32) (x3 : Int32) (σ : St) (H : Heap) (locs : List Loc) (ls : Array Slot), k51 x1 x2 x3 σ = some (r, σ2) → Wd g (wX g q) A s σ H locs → lv_has ls 4 [(0, .ref (q 0)), (1, .int x1), (2, .int x2), (3, .int x3)] → WK p l e s m av below meth c 2 g (wX g q) A (some (.int r)) σ2 H locs (F0 m 51 ls []))  {x1 : Int32} {x2 : Int32} {x3 : Int32} {σ : St} {H : Heap} {locs : List Loc} {ls : Array Slot} (hf : f_BH_next_51b  k51 x1 x2 x3 σ = some (r, σ2)) (w : Wd g (wX g q) A s σ H locs) (hl : lv_has ls 4 [(0, .ref (q 0)), (1, .int x1), (2, .int x2), (3, .int x3)]) : WK p l e s m av below meth c 2 g (wX g q) A (some (.int r)) σ2 H locs (F0 m 51 ls []) := by
  obtain ⟨hx, hb, hml, hown, hts, hK, hA, hZ, hlocks, hr, hN⟩ := id C
  unfold f_BH_next_51b at hf
  refine lv_iload_n hx hb d_BH_next_51 rfl (lv_at hl 3 rfl) ?_
  refine lv_aload_n hx hb d_BH_next_52 rfl (lv_at hl 0 rfl) ?_
  refine xg_0_turn C w k509 d_BH_next_53 ?_
  refine xg_23_aim C w k406 d_BH_next_56 ?_
  refine lv_icmp_gt (tgt := 94) hx hb d_BH_next_59 (by decide) (fun cd => ?_) (fun cd => ?_)
  · have hf := it_e cd hf
    refine lv_aload_n hx hb d_BH_next_94 rfl (lv_at hl 0 rfl) ?_
    refine xg_0_turn C w k509 d_BH_next_95 ?_
    refine xg_23_aim C w k406 d_BH_next_98 ?_
    refine lv_iconst (v := 1) hx hb d_BH_next_101 (by decide) ?_
    refine lv_iadd hx hb d_BH_next_102 ?_
    refine lv_topi (fun x_1 ex_1 => ?_)
    have hf := lt_e ex_1 hf
    refine lv_istore_n (lv' := [(3, .int x_1), (0, .ref (q 0)), (1, .int x1), (2, .int x2)]) hx hb d_BH_next_103 rfl hl (by decide) rfl (fun ls hl => ?_)
    refine lv_iload_n hx hb d_BH_next_104 rfl (lv_at hl 0 rfl) ?_
    refine lv_if_gt (tgt := 112) hx hb d_BH_next_105 (by decide) (fun cd => ?_) (fun cd => ?_)
    · have hf := it_e cd hf
      refine lv_sipush (v := 1000) hx hb d_BH_next_112 (by decide) ?_
      refine lv_iload_n hx hb d_BH_next_115 rfl (lv_at hl 3 rfl) ?_
      refine lv_imul hx hb d_BH_next_116 ?_
      refine lv_iload_n hx hb d_BH_next_117 rfl (lv_at hl 0 rfl) ?_
      obtain ⟨g_2, hf⟩ := gd_e hf
      refine lv_idiv hx hb d_BH_next_118 (nz_e g_2) ?_
      obtain ⟨rfl, rfl⟩ := some2_e hf
      exact k_iret C w d_BH_next_119
    · have hf := if_e cd hf
      refine lv_iconst (v := (-1)) hx hb d_BH_next_108 (by decide) ?_
      refine lv_goto (tgt := 119) hx hb d_BH_next_109 (by decide) ?_
      obtain ⟨rfl, rfl⟩ := some2_e hf
      exact k_iret C w d_BH_next_119
  · have hf := if_e cd hf
    refine lv_aload_n hx hb d_BH_next_62 rfl (lv_at hl 0 rfl) ?_
    refine xg_0_turn C w k509 d_BH_next_63 ?_
    refine lv_aload_n hx hb d_BH_next_66 rfl (lv_at hl 0 rfl) ?_
    refine xg_0_turn C w k509 d_BH_next_67 ?_
    refine lv_aload_n hx hb d_BH_next_70 rfl (lv_at hl 0 rfl) ?_
    refine xg_0_seenBlows C w k513 d_BH_next_71 ?_
    refine lv_iload_n hx hb d_BH_next_74 rfl (lv_at hl 3 rfl) ?_
    refine lv_iload_n hx hb d_BH_next_75 rfl (lv_at hl 1 rfl) ?_
    obtain ⟨r_4, h_3, hf⟩ := bp_e hf
    refine k_callV (As := [.int (sI σ 0), .int x3, .int x1]) (rest := [.ref (q 23)]) C w (c_Turn_height (q := q) h_3) cv_Turn_height k766 (xr_23 C w) (by decide) hl.1 rfl (Nat.le_of_ble_eq_true rfl) d_BH_next_76 (fun H locs w => ?_)
    show WK p l e s m av below meth c 2 g (wX g q) A (some (.int r)) σ2 H locs (F0 m 79 ls [.int r_4, .ref (q 23)])
    obtain ⟨r_6, h_5, hf⟩ := bp_e hf
    refine k_callV (As := [.int r_4]) (rest := []) C w (c_Turn_isRing_2 (q := q) h_5) cv_Turn_isRing k959 (xr_23 C w) (by decide) hl.1 rfl (Nat.le_of_ble_eq_true rfl) d_BH_next_79 (fun H locs w => ?_)
    show WK p l e s m av below meth c 2 g (wX g q) A (some (.int r)) σ2 H locs (F0 m 82 ls [.int r_6])
    refine lv_if_eq (tgt := 88) hx hb d_BH_next_82 (by decide) (fun cd => ?_) (fun cd => ?_)
    · have hf := it_e cd hf
      obtain ⟨x_7, ex_7⟩ : ∃ y : Int32, y = (x3 + 1) := ⟨_, rfl⟩
      have hf := lt_e ex_7 hf
      refine lv_iinc (v := x_7) (lv' := [(3, .int x_7), (0, .ref (q 0)), (1, .int x1), (2, .int x2)]) hx hb d_BH_next_88 hl (k := 3) rfl (by rw [ex_7]; rfl) (by decide) rfl (fun ls hl => ?_)
      refine lv_goto (tgt := 51) hx hb d_BH_next_91 (by decide) ?_
      exact hk51 x1 x2 x_7 σ _ _ _ hf w (lv_sub hl [1, 2, 3, 0] rfl)
    · have hf := if_e cd hf
      obtain ⟨x_8, ex_8⟩ : ∃ y : Int32, y = (x2 + 1) := ⟨_, rfl⟩
      have hf := lt_e ex_8 hf
      refine lv_iinc (v := x_8) (lv' := [(2, .int x_8), (0, .ref (q 0)), (1, .int x1), (3, .int x3)]) hx hb d_BH_next_85 hl (k := 2) rfl (by rw [ex_8]; rfl) (by decide) rfl (fun ls hl => ?_)
      obtain ⟨x_9, ex_9⟩ : ∃ y : Int32, y = (x3 + 1) := ⟨_, rfl⟩
      have hf := lt_e ex_9 hf
      refine lv_iinc (v := x_9) (lv' := [(3, .int x_9), (2, .int x_8), (0, .ref (q 0)), (1, .int x1)]) hx hb d_BH_next_88 hl (k := 3) rfl (by rw [ex_9]; rfl) (by decide) rfl (fun ls hl => ?_)
      refine lv_goto (tgt := 51) hx hb d_BH_next_91 (by decide) ?_
      exact hk51 x1 x_8 x_9 σ _ _ _ hf w (lv_sub hl [2, 3, 1, 0] rfl)
set_option maxHeartbeats 4000000 in
set_option maxRecDepth 20000 in
theorem t_BH_next_51 {r : Int32} {σ2 : St} (C : Cx g A p s m av meth c prog_1_method_28_code 4 "BellHammer" (some .int))  : ∀ (n : Nat) (x1 : Int32) (x2 : Int32) (x3 : Int32) (σ : St) (H : Heap) (locs : List Loc) (ls : Array Slot), f_BH_next_51   n x1 x2 x3 σ = some (r, σ2) → Wd g (wX g q) A s σ H locs → lv_has ls 4 [(0, .ref (q 0)), (1, .int x1), (2, .int x2), (3, .int x3)] → WK p l e s m av below meth c 2 g (wX g q) A (some (.int r)) σ2 H locs (F0 m 51 ls []) := by
  intro n
  induction n with
  | zero => intro x1 x2 x3 σ H locs ls hf; exact absurd hf (by intro z; cases z)
  | succ n ih => intro x1 x2 x3 σ H locs ls hf w hl; exact t_BH_next_51b C  ih hf w hl
set_option maxHeartbeats 4000000 in
set_option maxRecDepth 20000 in
theorem c_BH_next {l : Launch} {g : GX} {q : Nat → Nat} {x1 : Int32}  {σ : St} {r : Int32} {σ2 : St} (hf : f_BH_next  x1 σ = some (r, σ2)) : KK l y_BH_next prog_1_method_28_code 4 (some .int) 2 g (wX g q) σ [.ref (q 0), .int x1] (some (.int r)) (wX g q) σ2 := by
  refine KK_of (plainFor_of_name (by decide)) (Nat.le_of_ble_eq_true rfl) (fun p e s m below meth c A ls C w hl => ?_)
  have hl : lv_has ls 4 [(0, .ref (q 0)), (1, .int x1)] := hl
  obtain ⟨hx, hb, hml, hown, hts, hK, hA, hZ, hlocks, hr, hN⟩ := id C
  unfold f_BH_next at hf
  refine lv_aload_n hx hb d_BH_next_0 rfl (lv_at hl 0 rfl) ?_
  refine xg_0_seenBlows C w k513 d_BH_next_1 ?_
  refine lv_if_eq (tgt := 23) hx hb d_BH_next_4 (by decide) (fun cd => ?_) (fun cd => ?_)
  · have hf := it_e cd hf
    refine lv_iconst (v := (-1)) hx hb d_BH_next_23 (by decide) ?_
    obtain ⟨rfl, rfl⟩ := some2_e hf
    exact k_iret C w d_BH_next_24
  · have hf := if_e cd hf
    refine lv_aload_n hx hb d_BH_next_7 rfl (lv_at hl 0 rfl) ?_
    refine xg_0_seenBlows C w k513 d_BH_next_8 ?_
    refine lv_aload_n hx hb d_BH_next_11 rfl (lv_at hl 0 rfl) ?_
    refine xg_0_fair C w k511 d_BH_next_12 ?_
    refine xg_34_settings C w k261 d_BH_next_15 ?_
    refine lv_iconst (v := 3) hx hb d_BH_next_18 (by decide) ?_
    refine xl_39 C w (by decide) d_BH_next_19 ?_
    refine lv_icmp_lt (tgt := 25) hx hb d_BH_next_20 (by decide) (fun cd => ?_) (fun cd => ?_)
    · have hf := it_e cd hf
      refine lv_aload_n hx hb d_BH_next_25 rfl (lv_at hl 0 rfl) ?_
      refine xg_0_turn C w k509 d_BH_next_26 ?_
      refine lv_aload_n hx hb d_BH_next_29 rfl (lv_at hl 0 rfl) ?_
      refine xg_0_fair C w k511 d_BH_next_30 ?_
      refine lv_aload_n hx hb d_BH_next_33 rfl (lv_at hl 0 rfl) ?_
      refine xg_0_seenTrier C w k514 d_BH_next_34 ?_
      refine lv_aload_n hx hb d_BH_next_37 rfl (lv_at hl 0 rfl) ?_
      refine xg_0_book C w k507 d_BH_next_38 ?_
      refine xg_14_now C w k342 d_BH_next_41 ?_
      obtain ⟨σ_2, h_1, hf⟩ := bp_e hf
      refine k_callV (As := [.ref (q 34), .int (sI σ 1), .ref (q 15)]) (rest := []) C w (c_Turn_load (q := q) h_1) cv_Turn_load k760 (xr_23 C w) (by decide) hl.1 rfl (Nat.le_of_ble_eq_true rfl) d_BH_next_44 (fun H locs w => ?_)
      show WK p l e s m _ below meth c 2 g (wX g q) A (some (.int r)) σ2 H locs (F0 m 47 ls [])
      refine lv_iconst (v := 0) hx hb d_BH_next_47 (by decide) ?_
      refine lv_istore_n (lv' := [(2, .int 0), (0, .ref (q 0)), (1, .int x1)]) hx hb d_BH_next_48 rfl hl (by decide) rfl (fun ls hl => ?_)
      refine lv_iconst (v := 0) hx hb d_BH_next_49 (by decide) ?_
      refine lv_istore_n (lv' := [(3, .int 0), (2, .int 0), (0, .ref (q 0)), (1, .int x1)]) hx hb d_BH_next_50 rfl hl (by decide) rfl (fun ls hl => ?_)
      exact t_BH_next_51 C  FU x1 0 0 σ_2 _ _ _ hf w (lv_sub hl [2, 3, 1, 0] rfl)
    · have hf := if_e cd hf
      refine lv_iconst (v := (-1)) hx hb d_BH_next_23 (by decide) ?_
      obtain ⟨rfl, rfl⟩ := some2_e hf
      exact k_iret C w d_BH_next_24
def f_BH_isTellingOff_25b (k25 : Int32 → Int32 → Int32 → Int32 → St → Option (Int32)) (x1 : Int32) (x2 : Int32) (x3 : Int32) (x4 : Int32) (σ : St) : Option (Int32) :=
  if x1 < x4 then
    some 1
  else
    bp (f_Turn_height 0 x4 1 σ) fun r_2 =>
    if r_2 = x2 then
      some 0
    else
      bp (f_Turn_height 0 x4 0 σ) fun r_4 =>
      if r_4 = x3 then
        some 0
      else
        lt ((x4 + 1)) fun x_5 =>
        k25 x1 x2 x3 x_5 σ
def f_BH_isTellingOff_25 : Nat → Int32 → Int32 → Int32 → Int32 → St → Option (Int32)
  | 0 => fun _ _ _ _ _ => none
  | n + 1 => f_BH_isTellingOff_25b   (f_BH_isTellingOff_25   n)
def f_BH_isTellingOff (x1 : Int32) (σ : St) : Option (Int32) :=
  bp (f_Turn_height 0 x1 0 σ) fun r_2 =>
  bp (f_Turn_height 0 x1 1 σ) fun r_4 =>
  f_BH_isTellingOff_25 FU x1 r_2 r_4 0 σ
set_option maxHeartbeats 4000000 in
set_option maxRecDepth 20000 in
theorem t_BH_isTellingOff_25b {r : Int32} {σ : St} (C : Cx g A p s m av meth c prog_1_method_46_code 5 "BellHammer" (some .boolean)) {k25 : Int32 → Int32 → Int32 → Int32 → St → Option (Int32)} (hk25 : ∀ (x1 : Int32) (x2 : Int32) (x3 : Int32) (x4 : Int32) (H : Heap) (locs : List Loc) (ls : Array Slot), k25 x1 x2 x3 x4 σ = some r → Wd g (wX g q) A s σ H locs → lv_has ls 5 [(0, .ref (q 0)), (1, .int x1), (2, .int x2), (3, .int x3), (4, .int x4)] → WK p l e s m av below meth c 2 g (wX g q) A (some (.int r)) σ H locs (F0 m 25 ls []))  {x1 : Int32} {x2 : Int32} {x3 : Int32} {x4 : Int32} {H : Heap} {locs : List Loc} {ls : Array Slot} (hf : f_BH_isTellingOff_25b  k25 x1 x2 x3 x4 σ = some r) (w : Wd g (wX g q) A s σ H locs) (hl : lv_has ls 5 [(0, .ref (q 0)), (1, .int x1), (2, .int x2), (3, .int x3), (4, .int x4)]) : WK p l e s m av below meth c 2 g (wX g q) A (some (.int r)) σ H locs (F0 m 25 ls []) := by
  obtain ⟨hx, hb, hml, hown, hts, hK, hA, hZ, hlocks, hr, hN⟩ := id C
  unfold f_BH_isTellingOff_25b at hf
  refine lv_iload hx hb d_BH_isTellingOff_25 (lv_at hl 4 rfl) ?_
  refine lv_iload_n hx hb d_BH_isTellingOff_27 rfl (lv_at hl 1 rfl) ?_
  refine lv_icmp_gt (tgt := 69) hx hb d_BH_isTellingOff_28 (by decide) (fun cd => ?_) (fun cd => ?_)
  · have hf := it_e cd hf
    refine lv_iconst (v := 1) hx hb d_BH_isTellingOff_69 (by decide) ?_
    cases some_e hf
    exact k_zret C w (by decide) d_BH_isTellingOff_70
  · have hf := if_e cd hf
    refine lv_aload_n hx hb d_BH_isTellingOff_31 rfl (lv_at hl 0 rfl) ?_
    refine xg_0_turn C w k509 d_BH_isTellingOff_32 ?_
    refine lv_iconst (v := 0) hx hb d_BH_isTellingOff_35 (by decide) ?_
    refine lv_iload hx hb d_BH_isTellingOff_36 (lv_at hl 4 rfl) ?_
    refine lv_iconst (v := 1) hx hb d_BH_isTellingOff_38 (by decide) ?_
    obtain ⟨r_2, h_1, hf⟩ := bp_e hf
    refine k_callV (As := [.int 0, .int x4, .int 1]) (rest := []) C w (c_Turn_height (q := q) h_1) cv_Turn_height k766 (xr_23 C w) (by decide) hl.1 rfl (Nat.le_of_ble_eq_true rfl) d_BH_isTellingOff_39 (fun H locs w => ?_)
    show WK p l e s m av below meth c 2 g (wX g q) A (some (.int r)) σ H locs (F0 m 42 ls [.int r_2])
    refine lv_iload_n hx hb d_BH_isTellingOff_42 rfl (lv_at hl 2 rfl) ?_
    refine lv_icmp_eq (tgt := 61) hx hb d_BH_isTellingOff_43 (by decide) (fun cd => ?_) (fun cd => ?_)
    · have hf := it_e cd hf
      refine lv_iconst (v := 0) hx hb d_BH_isTellingOff_61 (by decide) ?_
      cases some_e hf
      exact k_zret C w (by decide) d_BH_isTellingOff_62
    · have hf := if_e cd hf
      refine lv_aload_n hx hb d_BH_isTellingOff_46 rfl (lv_at hl 0 rfl) ?_
      refine xg_0_turn C w k509 d_BH_isTellingOff_47 ?_
      refine lv_iconst (v := 0) hx hb d_BH_isTellingOff_50 (by decide) ?_
      refine lv_iload hx hb d_BH_isTellingOff_51 (lv_at hl 4 rfl) ?_
      refine lv_iconst (v := 0) hx hb d_BH_isTellingOff_53 (by decide) ?_
      obtain ⟨r_4, h_3, hf⟩ := bp_e hf
      refine k_callV (As := [.int 0, .int x4, .int 0]) (rest := []) C w (c_Turn_height (q := q) h_3) cv_Turn_height k766 (xr_23 C w) (by decide) hl.1 rfl (Nat.le_of_ble_eq_true rfl) d_BH_isTellingOff_54 (fun H locs w => ?_)
      show WK p l e s m av below meth c 2 g (wX g q) A (some (.int r)) σ H locs (F0 m 57 ls [.int r_4])
      refine lv_iload_n hx hb d_BH_isTellingOff_57 rfl (lv_at hl 3 rfl) ?_
      refine lv_icmp_ne (tgt := 63) hx hb d_BH_isTellingOff_58 (by decide) (fun cd => ?_) (fun cd => ?_)
      · have hf := if_e cd hf
        obtain ⟨x_5, ex_5⟩ : ∃ y : Int32, y = (x4 + 1) := ⟨_, rfl⟩
        have hf := lt_e ex_5 hf
        refine lv_iinc (v := x_5) (lv' := [(4, .int x_5), (0, .ref (q 0)), (1, .int x1), (2, .int x2), (3, .int x3)]) hx hb d_BH_isTellingOff_63 hl (k := 4) rfl (by rw [ex_5]; rfl) (by decide) rfl (fun ls hl => ?_)
        refine lv_goto (tgt := 25) hx hb d_BH_isTellingOff_66 (by decide) ?_
        exact hk25 x1 x2 x3 x_5  _ _ _ hf w (lv_sub hl [1, 2, 3, 4, 0] rfl)
      · have hf := it_e cd hf
        refine lv_iconst (v := 0) hx hb d_BH_isTellingOff_61 (by decide) ?_
        cases some_e hf
        exact k_zret C w (by decide) d_BH_isTellingOff_62
set_option maxHeartbeats 4000000 in
set_option maxRecDepth 20000 in
theorem t_BH_isTellingOff_25 {r : Int32} {σ : St} (C : Cx g A p s m av meth c prog_1_method_46_code 5 "BellHammer" (some .boolean))  : ∀ (n : Nat) (x1 : Int32) (x2 : Int32) (x3 : Int32) (x4 : Int32) (H : Heap) (locs : List Loc) (ls : Array Slot), f_BH_isTellingOff_25   n x1 x2 x3 x4 σ = some r → Wd g (wX g q) A s σ H locs → lv_has ls 5 [(0, .ref (q 0)), (1, .int x1), (2, .int x2), (3, .int x3), (4, .int x4)] → WK p l e s m av below meth c 2 g (wX g q) A (some (.int r)) σ H locs (F0 m 25 ls []) := by
  intro n
  induction n with
  | zero => intro x1 x2 x3 x4 H locs ls hf; exact absurd hf (by intro z; cases z)
  | succ n ih => intro x1 x2 x3 x4 H locs ls hf w hl; exact t_BH_isTellingOff_25b C  ih hf w hl
set_option maxHeartbeats 4000000 in
set_option maxRecDepth 20000 in
theorem c_BH_isTellingOff {l : Launch} {g : GX} {q : Nat → Nat} {x1 : Int32}  {σ : St} {r : Int32} (hf : f_BH_isTellingOff  x1 σ = some r) : KK l y_BH_isTellingOff prog_1_method_46_code 5 (some .boolean) 2 g (wX g q) σ [.ref (q 0), .int x1] (some (.int r)) (wX g q) σ := by
  refine KK_of (plainFor_of_name (by decide)) (Nat.le_of_ble_eq_true rfl) (fun p e s m below meth c A ls C w hl => ?_)
  have hl : lv_has ls 5 [(0, .ref (q 0)), (1, .int x1)] := hl
  obtain ⟨hx, hb, hml, hown, hts, hK, hA, hZ, hlocks, hr, hN⟩ := id C
  unfold f_BH_isTellingOff at hf
  refine lv_aload_n hx hb d_BH_isTellingOff_0 rfl (lv_at hl 0 rfl) ?_
  refine xg_0_turn C w k509 d_BH_isTellingOff_1 ?_
  refine lv_iconst (v := 0) hx hb d_BH_isTellingOff_4 (by decide) ?_
  refine lv_iload_n hx hb d_BH_isTellingOff_5 rfl (lv_at hl 1 rfl) ?_
  refine lv_iconst (v := 0) hx hb d_BH_isTellingOff_6 (by decide) ?_
  obtain ⟨r_2, h_1, hf⟩ := bp_e hf
  refine k_callV (As := [.int 0, .int x1, .int 0]) (rest := []) C w (c_Turn_height (q := q) h_1) cv_Turn_height k766 (xr_23 C w) (by decide) hl.1 rfl (Nat.le_of_ble_eq_true rfl) d_BH_isTellingOff_7 (fun H locs w => ?_)
  show WK p l e s m _ below meth c 2 g (wX g q) A (some (.int r)) σ H locs (F0 m 10 ls [.int r_2])
  refine lv_istore_n (lv' := [(2, .int r_2), (0, .ref (q 0)), (1, .int x1)]) hx hb d_BH_isTellingOff_10 rfl hl (by decide) rfl (fun ls hl => ?_)
  refine lv_aload_n hx hb d_BH_isTellingOff_11 rfl (lv_at hl 1 rfl) ?_
  refine xg_0_turn C w k509 d_BH_isTellingOff_12 ?_
  refine lv_iconst (v := 0) hx hb d_BH_isTellingOff_15 (by decide) ?_
  refine lv_iload_n hx hb d_BH_isTellingOff_16 rfl (lv_at hl 2 rfl) ?_
  refine lv_iconst (v := 1) hx hb d_BH_isTellingOff_17 (by decide) ?_
  obtain ⟨r_4, h_3, hf⟩ := bp_e hf
  refine k_callV (As := [.int 0, .int x1, .int 1]) (rest := []) C w (c_Turn_height (q := q) h_3) cv_Turn_height k766 (xr_23 C w) (by decide) hl.1 rfl (Nat.le_of_ble_eq_true rfl) d_BH_isTellingOff_18 (fun H locs w => ?_)
  show WK p l e s m _ below meth c 2 g (wX g q) A (some (.int r)) σ H locs (F0 m 21 ls [.int r_4])
  refine lv_istore_n (lv' := [(3, .int r_4), (2, .int r_2), (0, .ref (q 0)), (1, .int x1)]) hx hb d_BH_isTellingOff_21 rfl hl (by decide) rfl (fun ls hl => ?_)
  refine lv_iconst (v := 0) hx hb d_BH_isTellingOff_22 (by decide) ?_
  refine lv_istore (lv' := [(4, .int 0), (3, .int r_4), (2, .int r_2), (0, .ref (q 0)), (1, .int x1)]) hx hb d_BH_isTellingOff_23 hl (by decide) rfl (fun ls hl => ?_)
  exact t_BH_isTellingOff_25 C  FU x1 r_2 r_4 0  _ _ _ hf w (lv_sub hl [3, 4, 2, 1, 0] rfl)
def f_BH_clear_33b (k33 : Int32 → Int32 → St → Option (Int32 × St)) (x2 : Int32) (x3 : Int32) (σ : St) : Option (Int32 × St) :=
  if 9 < x3 then
    some (x2, σ)
  else
    bp (f_BH_isTellingOff x3 σ) fun r_2 =>
    if r_2 = 0 then
      some (x2, σ)
    else
      lt ((x3 + 1)) fun x_3 =>
      k33 x3 x_3 σ
def f_BH_clear_33 : Nat → Int32 → Int32 → St → Option (Int32 × St)
  | 0 => fun _ _ _ => none
  | n + 1 => f_BH_clear_33b   (f_BH_clear_33   n)
def f_BH_clear (x1 : Int32) (σ : St) : Option (Int32 × St) :=
  bp (f_BH_isTrier x1 σ) fun r_2 =>
  if r_2 = 0 then
    some ((-1), σ)
  else
    bp (f_Turn_load x1 σ) fun σ_4 =>
    f_BH_clear_33 FU (-1) 0 σ_4
set_option maxHeartbeats 4000000 in
set_option maxRecDepth 20000 in
theorem t_BH_clear_33b {r : Int32} {σ2 : St} (C : Cx g A p s m av meth c prog_1_method_29_code 4 "BellHammer" (some .int)) {k33 : Int32 → Int32 → St → Option (Int32 × St)} (hk33 : ∀ (x2 : Int32) (x3 : Int32) (σ : St) (H : Heap) (locs : List Loc) (ls : Array Slot), k33 x2 x3 σ = some (r, σ2) → Wd g (wX g q) A s σ H locs → lv_has ls 4 [(0, .ref (q 0)), (2, .int x2), (3, .int x3)] → WK p l e s m av below meth c 3 g (wX g q) A (some (.int r)) σ2 H locs (F0 m 33 ls []))  {x2 : Int32} {x3 : Int32} {σ : St} {H : Heap} {locs : List Loc} {ls : Array Slot} (hf : f_BH_clear_33b  k33 x2 x3 σ = some (r, σ2)) (w : Wd g (wX g q) A s σ H locs) (hl : lv_has ls 4 [(0, .ref (q 0)), (2, .int x2), (3, .int x3)]) : WK p l e s m av below meth c 3 g (wX g q) A (some (.int r)) σ2 H locs (F0 m 33 ls []) := by
  obtain ⟨hx, hb, hml, hown, hts, hK, hA, hZ, hlocks, hr, hN⟩ := id C
  unfold f_BH_clear_33b at hf
  refine lv_iload_n hx hb d_BH_clear_33 rfl (lv_at hl 2 rfl) ?_
  refine lv_bipush (v := 9) hx hb d_BH_clear_34 (by decide) ?_
  refine lv_icmp_gt (tgt := 55) hx hb d_BH_clear_36 (by decide) (fun cd => ?_) (fun cd => ?_)
  · have hf := it_e cd hf
    refine lv_iload_n hx hb d_BH_clear_55 rfl (lv_at hl 1 rfl) ?_
    obtain ⟨rfl, rfl⟩ := some2_e hf
    exact k_iret C w d_BH_clear_56
  · have hf := if_e cd hf
    refine lv_aload_n hx hb d_BH_clear_39 rfl (lv_at hl 0 rfl) ?_
    refine lv_iload_n hx hb d_BH_clear_40 rfl (lv_at hl 2 rfl) ?_
    obtain ⟨r_2, h_1, hf⟩ := bp_e hf
    refine k_callV (As := [.int x3]) (rest := []) C w (c_BH_isTellingOff (q := q) h_1) cv_BH_isTellingOff k1037 (xr_0 C w) (by decide) hl.1 rfl (Nat.le_of_ble_eq_true rfl) d_BH_clear_41 (fun H locs w => ?_)
    show WK p l e s m av below meth c 3 g (wX g q) A (some (.int r)) σ2 H locs (F0 m 44 ls [.int r_2])
    refine lv_if_eq (tgt := 55) hx hb d_BH_clear_44 (by decide) (fun cd => ?_) (fun cd => ?_)
    · have hf := it_e cd hf
      refine lv_iload_n hx hb d_BH_clear_55 rfl (lv_at hl 1 rfl) ?_
      obtain ⟨rfl, rfl⟩ := some2_e hf
      exact k_iret C w d_BH_clear_56
    · have hf := if_e cd hf
      refine lv_iload_n hx hb d_BH_clear_47 rfl (lv_at hl 2 rfl) ?_
      refine lv_istore_n (lv' := [(2, .int x3), (0, .ref (q 0)), (3, .int x3)]) hx hb d_BH_clear_48 rfl hl (by decide) rfl (fun ls hl => ?_)
      obtain ⟨x_3, ex_3⟩ : ∃ y : Int32, y = (x3 + 1) := ⟨_, rfl⟩
      have hf := lt_e ex_3 hf
      refine lv_iinc (v := x_3) (lv' := [(3, .int x_3), (2, .int x3), (0, .ref (q 0))]) hx hb d_BH_clear_49 hl (k := 2) rfl (by rw [ex_3]; rfl) (by decide) rfl (fun ls hl => ?_)
      refine lv_goto (tgt := 33) hx hb d_BH_clear_52 (by decide) ?_
      exact hk33 x3 x_3 σ _ _ _ hf w (lv_sub hl [2, 1, 0] rfl)
set_option maxHeartbeats 4000000 in
set_option maxRecDepth 20000 in
theorem t_BH_clear_33 {r : Int32} {σ2 : St} (C : Cx g A p s m av meth c prog_1_method_29_code 4 "BellHammer" (some .int))  : ∀ (n : Nat) (x2 : Int32) (x3 : Int32) (σ : St) (H : Heap) (locs : List Loc) (ls : Array Slot), f_BH_clear_33   n x2 x3 σ = some (r, σ2) → Wd g (wX g q) A s σ H locs → lv_has ls 4 [(0, .ref (q 0)), (2, .int x2), (3, .int x3)] → WK p l e s m av below meth c 3 g (wX g q) A (some (.int r)) σ2 H locs (F0 m 33 ls []) := by
  intro n
  induction n with
  | zero => intro x2 x3 σ H locs ls hf; exact absurd hf (by intro z; cases z)
  | succ n ih => intro x2 x3 σ H locs ls hf w hl; exact t_BH_clear_33b C  ih hf w hl
set_option maxHeartbeats 4000000 in
set_option maxRecDepth 20000 in
theorem c_BH_clear {l : Launch} {g : GX} {q : Nat → Nat} {x1 : Int32}  {σ : St} {r : Int32} {σ2 : St} (hf : f_BH_clear  x1 σ = some (r, σ2)) : KK l y_BH_clear prog_1_method_29_code 4 (some .int) 3 g (wX g q) σ [.ref (q 0), .int x1] (some (.int r)) (wX g q) σ2 := by
  refine KK_of (plainFor_of_name (by decide)) (Nat.le_of_ble_eq_true rfl) (fun p e s m below meth c A ls C w hl => ?_)
  have hl : lv_has ls 4 [(0, .ref (q 0)), (1, .int x1)] := hl
  obtain ⟨hx, hb, hml, hown, hts, hK, hA, hZ, hlocks, hr, hN⟩ := id C
  unfold f_BH_clear at hf
  refine lv_aload_n hx hb d_BH_clear_0 rfl (lv_at hl 0 rfl) ?_
  refine lv_iload_n hx hb d_BH_clear_1 rfl (lv_at hl 1 rfl) ?_
  obtain ⟨r_2, h_1, hf⟩ := bp_e hf
  refine k_callV (As := [.int x1]) (rest := []) C w (c_BH_isTrier (q := q) h_1) cv_BH_isTrier k726 (xr_0 C w) (by decide) hl.1 rfl (Nat.le_of_ble_eq_true rfl) d_BH_clear_2 (fun H locs w => ?_)
  show WK p l e s m _ below meth c 3 g (wX g q) A (some (.int r)) σ2 H locs (F0 m 5 ls [.int r_2])
  refine lv_if_ne (tgt := 10) hx hb d_BH_clear_5 (by decide) (fun cd => ?_) (fun cd => ?_)
  · have hf := if_e cd hf
    refine lv_aload_n hx hb d_BH_clear_10 rfl (lv_at hl 0 rfl) ?_
    refine xg_0_turn C w k509 d_BH_clear_11 ?_
    refine lv_aload_n hx hb d_BH_clear_14 rfl (lv_at hl 0 rfl) ?_
    refine xg_0_fair C w k511 d_BH_clear_15 ?_
    refine lv_iload_n hx hb d_BH_clear_18 rfl (lv_at hl 1 rfl) ?_
    refine lv_aload_n hx hb d_BH_clear_19 rfl (lv_at hl 0 rfl) ?_
    refine xg_0_book C w k507 d_BH_clear_20 ?_
    refine xg_14_now C w k342 d_BH_clear_23 ?_
    obtain ⟨σ_4, h_3, hf⟩ := bp_e hf
    refine k_callV (As := [.ref (q 34), .int x1, .ref (q 15)]) (rest := []) C w (c_Turn_load (q := q) h_3) cv_Turn_load k760 (xr_23 C w) (by decide) hl.1 rfl (Nat.le_of_ble_eq_true rfl) d_BH_clear_26 (fun H locs w => ?_)
    show WK p l e s m _ below meth c 3 g (wX g q) A (some (.int r)) σ2 H locs (F0 m 29 ls [])
    refine lv_iconst (v := (-1)) hx hb d_BH_clear_29 (by decide) ?_
    refine lv_istore_n (lv' := [(2, .int (-1)), (0, .ref (q 0)), (1, .int x1)]) hx hb d_BH_clear_30 rfl hl (by decide) rfl (fun ls hl => ?_)
    refine lv_iconst (v := 0) hx hb d_BH_clear_31 (by decide) ?_
    refine lv_istore_n (lv' := [(3, .int 0), (2, .int (-1)), (0, .ref (q 0)), (1, .int x1)]) hx hb d_BH_clear_32 rfl hl (by decide) rfl (fun ls hl => ?_)
    exact t_BH_clear_33 C  FU (-1) 0 σ_4 _ _ _ hf w (lv_sub hl [2, 1, 0] rfl)
  · have hf := it_e cd hf
    refine lv_iconst (v := (-1)) hx hb d_BH_clear_8 (by decide) ?_
    obtain ⟨rfl, rfl⟩ := some2_e hf
    exact k_iret C w d_BH_clear_9
