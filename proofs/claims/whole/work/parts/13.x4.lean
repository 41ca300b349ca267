variable {p : Program} {l : Launch} {e : Env} {s : State} {m : MethodId} {av : Array Value} {below : List Frame} {meth : Method} {c : Code} {g : GX} {q : Nat → Nat} {A : Nat → Prop}
theorem d_Showman_join_0 : decode prog_7_method_7_code 0 = .ok (.iload_n 0, 1) := by decide +kernel
theorem d_Showman_join_1 : decode prog_7_method_7_code 1 = .ok (.tableswitch 126 10011 10021 #[59, 63, 67, 78, 89, 126, 126, 126, 112, 100, 106], 59) := by decide +kernel
theorem d_Showman_join_60 : decode prog_7_method_7_code 60 = .ok (.iload_n 1, 1) := by decide +kernel
theorem d_Showman_join_61 : decode prog_7_method_7_code 61 = .ok (.iload_n 2, 1) := by decide +kernel
theorem d_Showman_join_62 : decode prog_7_method_7_code 62 = .ok (.iand, 1) := by decide +kernel
theorem d_Showman_join_63 : decode prog_7_method_7_code 63 = .ok (.ireturn, 1) := by decide +kernel
theorem d_Showman_join_64 : decode prog_7_method_7_code 64 = .ok (.iload_n 1, 1) := by decide +kernel
theorem d_Showman_join_65 : decode prog_7_method_7_code 65 = .ok (.iload_n 2, 1) := by decide +kernel
theorem d_Showman_join_66 : decode prog_7_method_7_code 66 = .ok (.ior, 1) := by decide +kernel
theorem d_Showman_join_67 : decode prog_7_method_7_code 67 = .ok (.ireturn, 1) := by decide +kernel
theorem d_Showman_join_68 : decode prog_7_method_7_code 68 = .ok (.iload_n 1, 1) := by decide +kernel
theorem d_Showman_join_69 : decode prog_7_method_7_code 69 = .ok (.iload_n 2, 1) := by decide +kernel
theorem d_Showman_join_70 : decode prog_7_method_7_code 70 = .ok (.if_icmp .ge 7, 3) := by decide +kernel
theorem d_Showman_join_73 : decode prog_7_method_7_code 73 = .ok (.iconst 1, 1) := by decide +kernel
theorem d_Showman_join_74 : decode prog_7_method_7_code 74 = .ok (.goto 4, 3) := by decide +kernel
theorem d_Showman_join_77 : decode prog_7_method_7_code 77 = .ok (.iconst 0, 1) := by decide +kernel
theorem d_Showman_join_78 : decode prog_7_method_7_code 78 = .ok (.ireturn, 1) := by decide +kernel
theorem d_Showman_join_79 : decode prog_7_method_7_code 79 = .ok (.iload_n 1, 1) := by decide +kernel
theorem d_Showman_join_80 : decode prog_7_method_7_code 80 = .ok (.iload_n 2, 1) := by decide +kernel
theorem d_Showman_join_81 : decode prog_7_method_7_code 81 = .ok (.if_icmp .le 7, 3) := by decide +kernel
theorem d_Showman_join_84 : decode prog_7_method_7_code 84 = .ok (.iconst 1, 1) := by decide +kernel
theorem d_Showman_join_85 : decode prog_7_method_7_code 85 = .ok (.goto 4, 3) := by decide +kernel
theorem d_Showman_join_88 : decode prog_7_method_7_code 88 = .ok (.iconst 0, 1) := by decide +kernel
theorem d_Showman_join_89 : decode prog_7_method_7_code 89 = .ok (.ireturn, 1) := by decide +kernel
theorem d_Showman_join_90 : decode prog_7_method_7_code 90 = .ok (.iload_n 1, 1) := by decide +kernel
theorem d_Showman_join_91 : decode prog_7_method_7_code 91 = .ok (.iload_n 2, 1) := by decide +kernel
theorem d_Showman_join_92 : decode prog_7_method_7_code 92 = .ok (.if_icmp .ne 7, 3) := by decide +kernel
theorem d_Showman_join_95 : decode prog_7_method_7_code 95 = .ok (.iconst 1, 1) := by decide +kernel
theorem d_Showman_join_96 : decode prog_7_method_7_code 96 = .ok (.goto 4, 3) := by decide +kernel
theorem d_Showman_join_99 : decode prog_7_method_7_code 99 = .ok (.iconst 0, 1) := by decide +kernel
theorem d_Showman_join_100 : decode prog_7_method_7_code 100 = .ok (.ireturn, 1) := by decide +kernel
theorem d_Showman_join_101 : decode prog_7_method_7_code 101 = .ok (.iload_n 1, 1) := by decide +kernel
theorem d_Showman_join_102 : decode prog_7_method_7_code 102 = .ok (.iload_n 2, 1) := by decide +kernel
theorem d_Showman_join_103 : decode prog_7_method_7_code 103 = .ok (.invokestatic 42, 3) := by decide +kernel
theorem d_Showman_join_106 : decode prog_7_method_7_code 106 = .ok (.ireturn, 1) := by decide +kernel
theorem d_Showman_join_107 : decode prog_7_method_7_code 107 = .ok (.iload_n 1, 1) := by decide +kernel
theorem d_Showman_join_108 : decode prog_7_method_7_code 108 = .ok (.iload_n 2, 1) := by decide +kernel
theorem d_Showman_join_109 : decode prog_7_method_7_code 109 = .ok (.invokestatic 48, 3) := by decide +kernel
theorem d_Showman_join_112 : decode prog_7_method_7_code 112 = .ok (.ireturn, 1) := by decide +kernel
theorem d_Showman_join_113 : decode prog_7_method_7_code 113 = .ok (.iload_n 2, 1) := by decide +kernel
theorem d_Showman_join_114 : decode prog_7_method_7_code 114 = .ok (.ifCond .ne 7, 3) := by decide +kernel
theorem d_Showman_join_117 : decode prog_7_method_7_code 117 = .ok (.iconst 0, 1) := by decide +kernel
theorem d_Showman_join_118 : decode prog_7_method_7_code 118 = .ok (.goto 8, 3) := by decide +kernel
theorem d_Showman_join_121 : decode prog_7_method_7_code 121 = .ok (.iload_n 1, 1) := by decide +kernel
theorem d_Showman_join_122 : decode prog_7_method_7_code 122 = .ok (.iload_n 2, 1) := by decide +kernel
theorem d_Showman_join_123 : decode prog_7_method_7_code 123 = .ok (.invokestatic 51, 3) := by decide +kernel
theorem d_Showman_join_126 : decode prog_7_method_7_code 126 = .ok (.ireturn, 1) := by decide +kernel
theorem d_Showman_join_127 : decode prog_7_method_7_code 127 = .ok (.iload_n 0, 1) := by decide +kernel
theorem d_Showman_join_128 : decode prog_7_method_7_code 128 = .ok (.iload_n 1, 1) := by decide +kernel
theorem d_Showman_join_129 : decode prog_7_method_7_code 129 = .ok (.i2l, 1) := by decide +kernel
theorem d_Showman_join_130 : decode prog_7_method_7_code 130 = .ok (.iload_n 2, 1) := by decide +kernel
theorem d_Showman_join_131 : decode prog_7_method_7_code 131 = .ok (.i2l, 1) := by decide +kernel
theorem d_Showman_join_132 : decode prog_7_method_7_code 132 = .ok (.invokestatic 54, 3) := by decide +kernel
theorem d_Showman_join_135 : decode prog_7_method_7_code 135 = .ok (.ireturn, 1) := by decide +kernel
theorem d_Showman_valueOf_0 : decode prog_7_method_6_code 0 = .ok (.iload_n 1, 1) := by decide +kernel
theorem d_Showman_valueOf_1 : decode prog_7_method_6_code 1 = .ok (.sipush 10000, 3) := by decide +kernel
theorem d_Showman_valueOf_4 : decode prog_7_method_6_code 4 = .ok (.isub, 1) := by decide +kernel
theorem d_Showman_valueOf_5 : decode prog_7_method_6_code 5 = .ok (.istore_n 2, 1) := by decide +kernel
theorem d_Showman_valueOf_6 : decode prog_7_method_6_code 6 = .ok (.iload_n 2, 1) := by decide +kernel
theorem d_Showman_valueOf_7 : decode prog_7_method_6_code 7 = .ok (.ifCond .ge 5, 3) := by decide +kernel
theorem d_Showman_valueOf_10 : decode prog_7_method_6_code 10 = .ok (.iload_n 1, 1) := by decide +kernel
theorem d_Showman_valueOf_11 : decode prog_7_method_6_code 11 = .ok (.ireturn, 1) := by decide +kernel
theorem d_Showman_valueOf_12 : decode prog_7_method_6_code 12 = .ok (.iload_n 2, 1) := by decide +kernel
theorem d_Showman_valueOf_13 : decode prog_7_method_6_code 13 = .ok (.aload_n 0, 1) := by decide +kernel
theorem d_Showman_valueOf_14 : decode prog_7_method_6_code 14 = .ok (.getfield 7, 3) := by decide +kernel
theorem d_Showman_valueOf_17 : decode prog_7_method_6_code 17 = .ok (.arraylength, 1) := by decide +kernel
theorem d_Showman_valueOf_18 : decode prog_7_method_6_code 18 = .ok (.if_icmp .ge 12, 3) := by decide +kernel
theorem d_Showman_valueOf_21 : decode prog_7_method_6_code 21 = .ok (.aload_n 0, 1) := by decide +kernel
theorem d_Showman_valueOf_22 : decode prog_7_method_6_code 22 = .ok (.getfield 7, 3) := by decide +kernel
theorem d_Showman_valueOf_25 : decode prog_7_method_6_code 25 = .ok (.iload_n 2, 1) := by decide +kernel
theorem d_Showman_valueOf_26 : decode prog_7_method_6_code 26 = .ok (.iaload, 1) := by decide +kernel
theorem d_Showman_valueOf_27 : decode prog_7_method_6_code 27 = .ok (.goto 4, 3) := by decide +kernel
theorem d_Showman_valueOf_30 : decode prog_7_method_6_code 30 = .ok (.iconst 0, 1) := by decide +kernel
theorem d_Showman_valueOf_31 : decode prog_7_method_6_code 31 = .ok (.ireturn, 1) := by decide +kernel
theorem d_Showman_holds_0 : decode prog_7_method_5_code 0 = .ok (.iconst 0, 1) := by decide +kernel
theorem d_Showman_holds_1 : decode prog_7_method_5_code 1 = .ok (.istore 4, 2) := by decide +kernel
theorem d_Showman_holds_3 : decode prog_7_method_5_code 3 = .ok (.iload_n 2, 1) := by decide +kernel
theorem d_Showman_holds_4 : decode prog_7_method_5_code 4 = .ok (.istore 5, 2) := by decide +kernel
theorem d_Showman_holds_6 : decode prog_7_method_5_code 6 = .ok (.iload 5, 2) := by decide +kernel
theorem d_Showman_holds_8 : decode prog_7_method_5_code 8 = .ok (.iload_n 3, 1) := by decide +kernel
theorem d_Showman_holds_9 : decode prog_7_method_5_code 9 = .ok (.if_icmp .ge 136, 3) := by decide +kernel
theorem d_Showman_holds_12 : decode prog_7_method_5_code 12 = .ok (.iload 5, 2) := by decide +kernel
theorem d_Showman_holds_14 : decode prog_7_method_5_code 14 = .ok (.aload_n 1, 1) := by decide +kernel
theorem d_Showman_holds_15 : decode prog_7_method_5_code 15 = .ok (.arraylength, 1) := by decide +kernel
theorem d_Showman_holds_16 : decode prog_7_method_5_code 16 = .ok (.if_icmp .ge 129, 3) := by decide +kernel
theorem d_Showman_holds_19 : decode prog_7_method_5_code 19 = .ok (.aload_n 1, 1) := by decide +kernel
theorem d_Showman_holds_20 : decode prog_7_method_5_code 20 = .ok (.iload 5, 2) := by decide +kernel
theorem d_Showman_holds_22 : decode prog_7_method_5_code 22 = .ok (.iaload, 1) := by decide +kernel
theorem d_Showman_holds_23 : decode prog_7_method_5_code 23 = .ok (.istore 6, 2) := by decide +kernel
theorem d_Showman_holds_25 : decode prog_7_method_5_code 25 = .ok (.iload 6, 2) := by decide +kernel
theorem d_Showman_holds_27 : decode prog_7_method_5_code 27 = .ok (.sipush 10010, 3) := by decide +kernel
theorem d_Showman_holds_30 : decode prog_7_method_5_code 30 = .ok (.if_icmp .ge 32, 3) := by decide +kernel
theorem d_Showman_holds_33 : decode prog_7_method_5_code 33 = .ok (.iload 4, 2) := by decide +kernel
theorem d_Showman_holds_35 : decode prog_7_method_5_code 35 = .ok (.aload_n 0, 1) := by decide +kernel
theorem d_Showman_holds_36 : decode prog_7_method_5_code 36 = .ok (.getfield 13, 3) := by decide +kernel
theorem d_Showman_holds_39 : decode prog_7_method_5_code 39 = .ok (.arraylength, 1) := by decide +kernel
theorem d_Showman_holds_40 : decode prog_7_method_5_code 40 = .ok (.if_icmp .ge 99, 3) := by decide +kernel
theorem d_Showman_holds_43 : decode prog_7_method_5_code 43 = .ok (.aload_n 0, 1) := by decide +kernel
theorem d_Showman_holds_44 : decode prog_7_method_5_code 44 = .ok (.getfield 13, 3) := by decide +kernel
theorem d_Showman_holds_47 : decode prog_7_method_5_code 47 = .ok (.iload 4, 2) := by decide +kernel
theorem d_Showman_holds_49 : decode prog_7_method_5_code 49 = .ok (.aload_n 0, 1) := by decide +kernel
theorem d_Showman_holds_50 : decode prog_7_method_5_code 50 = .ok (.iload 6, 2) := by decide +kernel
theorem d_Showman_holds_52 : decode prog_7_method_5_code 52 = .ok (.invokevirtual 34, 3) := by decide +kernel
theorem d_Showman_holds_55 : decode prog_7_method_5_code 55 = .ok (.iastore, 1) := by decide +kernel
theorem d_Showman_holds_56 : decode prog_7_method_5_code 56 = .ok (.iinc 4 1, 3) := by decide +kernel
theorem d_Showman_holds_59 : decode prog_7_method_5_code 59 = .ok (.goto 80, 3) := by decide +kernel
theorem d_Showman_holds_62 : decode prog_7_method_5_code 62 = .ok (.iload 6, 2) := by decide +kernel
theorem d_Showman_holds_64 : decode prog_7_method_5_code 64 = .ok (.sipush 10010, 3) := by decide +kernel
theorem d_Showman_holds_67 : decode prog_7_method_5_code 67 = .ok (.if_icmp .ne 31, 3) := by decide +kernel
theorem d_Showman_holds_70 : decode prog_7_method_5_code 70 = .ok (.iload 4, 2) := by decide +kernel
theorem d_Showman_holds_72 : decode prog_7_method_5_code 72 = .ok (.ifCond .le 67, 3) := by decide +kernel
theorem d_Showman_holds_75 : decode prog_7_method_5_code 75 = .ok (.aload_n 0, 1) := by decide +kernel
theorem d_Showman_holds_76 : decode prog_7_method_5_code 76 = .ok (.getfield 13, 3) := by decide +kernel
theorem d_Showman_holds_79 : decode prog_7_method_5_code 79 = .ok (.iload 4, 2) := by decide +kernel
theorem d_Showman_holds_81 : decode prog_7_method_5_code 81 = .ok (.iconst 1, 1) := by decide +kernel
theorem d_Showman_holds_82 : decode prog_7_method_5_code 82 = .ok (.isub, 1) := by decide +kernel
theorem d_Showman_holds_83 : decode prog_7_method_5_code 83 = .ok (.iconst 1, 1) := by decide +kernel
theorem d_Showman_holds_84 : decode prog_7_method_5_code 84 = .ok (.aload_n 0, 1) := by decide +kernel
theorem d_Showman_holds_85 : decode prog_7_method_5_code 85 = .ok (.getfield 13, 3) := by decide +kernel
theorem d_Showman_holds_88 : decode prog_7_method_5_code 88 = .ok (.iload 4, 2) := by decide +kernel
theorem d_Showman_holds_90 : decode prog_7_method_5_code 90 = .ok (.iconst 1, 1) := by decide +kernel
theorem d_Showman_holds_91 : decode prog_7_method_5_code 91 = .ok (.isub, 1) := by decide +kernel
theorem d_Showman_holds_92 : decode prog_7_method_5_code 92 = .ok (.iaload, 1) := by decide +kernel
theorem d_Showman_holds_93 : decode prog_7_method_5_code 93 = .ok (.isub, 1) := by decide +kernel
theorem d_Showman_holds_94 : decode prog_7_method_5_code 94 = .ok (.iastore, 1) := by decide +kernel
theorem d_Showman_holds_95 : decode prog_7_method_5_code 95 = .ok (.goto 44, 3) := by decide +kernel
theorem d_Showman_holds_98 : decode prog_7_method_5_code 98 = .ok (.iload 4, 2) := by decide +kernel
theorem d_Showman_holds_100 : decode prog_7_method_5_code 100 = .ok (.iconst 1, 1) := by decide +kernel
theorem d_Showman_holds_101 : decode prog_7_method_5_code 101 = .ok (.if_icmp .le 38, 3) := by decide +kernel
theorem d_Showman_holds_104 : decode prog_7_method_5_code 104 = .ok (.aload_n 0, 1) := by decide +kernel
theorem d_Showman_holds_105 : decode prog_7_method_5_code 105 = .ok (.getfield 13, 3) := by decide +kernel
theorem d_Showman_holds_108 : decode prog_7_method_5_code 108 = .ok (.iload 4, 2) := by decide +kernel
theorem d_Showman_holds_110 : decode prog_7_method_5_code 110 = .ok (.iconst 2, 1) := by decide +kernel
theorem d_Showman_holds_111 : decode prog_7_method_5_code 111 = .ok (.isub, 1) := by decide +kernel
theorem d_Showman_holds_112 : decode prog_7_method_5_code 112 = .ok (.iload 6, 2) := by decide +kernel
theorem d_Showman_holds_114 : decode prog_7_method_5_code 114 = .ok (.aload_n 0, 1) := by decide +kernel
theorem d_Showman_holds_115 : decode prog_7_method_5_code 115 = .ok (.getfield 13, 3) := by decide +kernel
theorem d_Showman_holds_118 : decode prog_7_method_5_code 118 = .ok (.iload 4, 2) := by decide +kernel
theorem d_Showman_holds_120 : decode prog_7_method_5_code 120 = .ok (.iconst 2, 1) := by decide +kernel
theorem d_Showman_holds_121 : decode prog_7_method_5_code 121 = .ok (.isub, 1) := by decide +kernel
theorem d_Showman_holds_122 : decode prog_7_method_5_code 122 = .ok (.iaload, 1) := by decide +kernel
theorem d_Showman_holds_123 : decode prog_7_method_5_code 123 = .ok (.aload_n 0, 1) := by decide +kernel
theorem d_Showman_holds_124 : decode prog_7_method_5_code 124 = .ok (.getfield 13, 3) := by decide +kernel
theorem d_Showman_holds_127 : decode prog_7_method_5_code 127 = .ok (.iload 4, 2) := by decide +kernel
theorem d_Showman_holds_129 : decode prog_7_method_5_code 129 = .ok (.iconst 1, 1) := by decide +kernel
theorem d_Showman_holds_130 : decode prog_7_method_5_code 130 = .ok (.isub, 1) := by decide +kernel
theorem d_Showman_holds_131 : decode prog_7_method_5_code 131 = .ok (.iaload, 1) := by decide +kernel
theorem d_Showman_holds_132 : decode prog_7_method_5_code 132 = .ok (.invokestatic 38, 3) := by decide +kernel
theorem d_Showman_holds_135 : decode prog_7_method_5_code 135 = .ok (.iastore, 1) := by decide +kernel
theorem d_Showman_holds_136 : decode prog_7_method_5_code 136 = .ok (.iinc 4 (-1), 3) := by decide +kernel
theorem d_Showman_holds_139 : decode prog_7_method_5_code 139 = .ok (.iinc 5 1, 3) := by decide +kernel
theorem d_Showman_holds_142 : decode prog_7_method_5_code 142 = .ok (.goto (-136), 3) := by decide +kernel
theorem d_Showman_holds_145 : decode prog_7_method_5_code 145 = .ok (.iload 4, 2) := by decide +kernel
theorem d_Showman_holds_147 : decode prog_7_method_5_code 147 = .ok (.ifCond .le 19, 3) := by decide +kernel
theorem d_Showman_holds_150 : decode prog_7_method_5_code 150 = .ok (.aload_n 0, 1) := by decide +kernel
theorem d_Showman_holds_151 : decode prog_7_method_5_code 151 = .ok (.getfield 13, 3) := by decide +kernel
theorem d_Showman_holds_154 : decode prog_7_method_5_code 154 = .ok (.iload 4, 2) := by decide +kernel
theorem d_Showman_holds_156 : decode prog_7_method_5_code 156 = .ok (.iconst 1, 1) := by decide +kernel
theorem d_Showman_holds_157 : decode prog_7_method_5_code 157 = .ok (.isub, 1) := by decide +kernel
theorem d_Showman_holds_158 : decode prog_7_method_5_code 158 = .ok (.iaload, 1) := by decide +kernel
theorem d_Showman_holds_159 : decode prog_7_method_5_code 159 = .ok (.ifCond .eq 7, 3) := by decide +kernel
theorem d_Showman_holds_162 : decode prog_7_method_5_code 162 = .ok (.iconst 1, 1) := by decide +kernel
theorem d_Showman_holds_163 : decode prog_7_method_5_code 163 = .ok (.goto 4, 3) := by decide +kernel
theorem d_Showman_holds_166 : decode prog_7_method_5_code 166 = .ok (.iconst 0, 1) := by decide +kernel
theorem d_Showman_holds_167 : decode prog_7_method_5_code 167 = .ok (.ireturn, 1) := by decide +kernel
theorem d_Showman_rulesThatHold_0 : decode prog_7_method_4_code 0 = .ok (.iconst 0, 1) := by decide +kernel
theorem d_Showman_rulesThatHold_1 : decode prog_7_method_4_code 1 = .ok (.istore_n 2, 1) := by decide +kernel
theorem d_Showman_rulesThatHold_2 : decode prog_7_method_4_code 2 = .ok (.iconst 0, 1) := by decide +kernel
theorem d_Showman_rulesThatHold_3 : decode prog_7_method_4_code 3 = .ok (.istore_n 3, 1) := by decide +kernel
theorem d_Showman_rulesThatHold_4 : decode prog_7_method_4_code 4 = .ok (.iconst 0, 1) := by decide +kernel
theorem d_Showman_rulesThatHold_5 : decode prog_7_method_4_code 5 = .ok (.istore 4, 2) := by decide +kernel
theorem d_Showman_rulesThatHold_7 : decode prog_7_method_4_code 7 = .ok (.iload 4, 2) := by decide +kernel
theorem d_Showman_rulesThatHold_9 : decode prog_7_method_4_code 9 = .ok (.aload_n 1, 1) := by decide +kernel
theorem d_Showman_rulesThatHold_10 : decode prog_7_method_4_code 10 = .ok (.getfield 16, 3) := by decide +kernel
theorem d_Showman_rulesThatHold_13 : decode prog_7_method_4_code 13 = .ok (.if_icmp .ge 43, 3) := by decide +kernel
theorem d_Showman_rulesThatHold_16 : decode prog_7_method_4_code 16 = .ok (.aload_n 0, 1) := by decide +kernel
theorem d_Showman_rulesThatHold_17 : decode prog_7_method_4_code 17 = .ok (.aload_n 1, 1) := by decide +kernel
theorem d_Showman_rulesThatHold_18 : decode prog_7_method_4_code 18 = .ok (.getfield 22, 3) := by decide +kernel
theorem d_Showman_rulesThatHold_21 : decode prog_7_method_4_code 21 = .ok (.iload_n 3, 1) := by decide +kernel
theorem d_Showman_rulesThatHold_22 : decode prog_7_method_4_code 22 = .ok (.aload_n 1, 1) := by decide +kernel
theorem d_Showman_rulesThatHold_23 : decode prog_7_method_4_code 23 = .ok (.getfield 25, 3) := by decide +kernel
theorem d_Showman_rulesThatHold_26 : decode prog_7_method_4_code 26 = .ok (.iload 4, 2) := by decide +kernel
theorem d_Showman_rulesThatHold_28 : decode prog_7_method_4_code 28 = .ok (.iaload, 1) := by decide +kernel
theorem d_Showman_rulesThatHold_29 : decode prog_7_method_4_code 29 = .ok (.invokevirtual 28, 3) := by decide +kernel
theorem d_Showman_rulesThatHold_32 : decode prog_7_method_4_code 32 = .ok (.ifCond .eq 10, 3) := by decide +kernel
theorem d_Showman_rulesThatHold_35 : decode prog_7_method_4_code 35 = .ok (.iload_n 2, 1) := by decide +kernel
theorem d_Showman_rulesThatHold_36 : decode prog_7_method_4_code 36 = .ok (.iconst 1, 1) := by decide +kernel
theorem d_Showman_rulesThatHold_37 : decode prog_7_method_4_code 37 = .ok (.iload 4, 2) := by decide +kernel
theorem d_Showman_rulesThatHold_39 : decode prog_7_method_4_code 39 = .ok (.ishl, 1) := by decide +kernel
theorem d_Showman_rulesThatHold_40 : decode prog_7_method_4_code 40 = .ok (.ior, 1) := by decide +kernel
theorem d_Showman_rulesThatHold_41 : decode prog_7_method_4_code 41 = .ok (.istore_n 2, 1) := by decide +kernel
theorem d_Showman_rulesThatHold_42 : decode prog_7_method_4_code 42 = .ok (.aload_n 1, 1) := by decide +kernel
theorem d_Showman_rulesThatHold_43 : decode prog_7_method_4_code 43 = .ok (.getfield 25, 3) := by decide +kernel
theorem d_Showman_rulesThatHold_46 : decode prog_7_method_4_code 46 = .ok (.iload 4, 2) := by decide +kernel
theorem d_Showman_rulesThatHold_48 : decode prog_7_method_4_code 48 = .ok (.iaload, 1) := by decide +kernel
theorem d_Showman_rulesThatHold_49 : decode prog_7_method_4_code 49 = .ok (.istore_n 3, 1) := by decide +kernel
theorem d_Showman_rulesThatHold_50 : decode prog_7_method_4_code 50 = .ok (.iinc 4 1, 3) := by decide +kernel
theorem d_Showman_rulesThatHold_53 : decode prog_7_method_4_code 53 = .ok (.goto (-46), 3) := by decide +kernel
theorem d_Showman_rulesThatHold_56 : decode prog_7_method_4_code 56 = .ok (.iload_n 2, 1) := by decide +kernel
theorem d_Showman_rulesThatHold_57 : decode prog_7_method_4_code 57 = .ok (.ireturn, 1) := by decide +kernel
theorem d_BH_leans_0 : decode prog_1_method_14_code 0 = .ok (.aload_n 0, 1) := by decide +kernel
theorem d_BH_leans_1 : decode prog_1_method_14_code 1 = .ok (.iload_n 1, 1) := by decide +kernel
theorem d_BH_leans_2 : decode prog_1_method_14_code 2 = .ok (.invokevirtual 144, 3) := by decide +kernel
theorem d_BH_leans_5 : decode prog_1_method_14_code 5 = .ok (.ifCond .eq 45, 3) := by decide +kernel
theorem d_BH_leans_8 : decode prog_1_method_14_code 8 = .ok (.iload_n 2, 1) := by decide +kernel
theorem d_BH_leans_9 : decode prog_1_method_14_code 9 = .ok (.sipush 999, 3) := by decide +kernel
theorem d_BH_leans_12 : decode prog_1_method_14_code 12 = .ok (.invokestatic 175, 3) := by decide +kernel
theorem d_BH_leans_15 : decode prog_1_method_14_code 15 = .ok (.ifCond .eq 35, 3) := by decide +kernel
theorem d_BH_leans_18 : decode prog_1_method_14_code 18 = .ok (.iload_n 3, 1) := by decide +kernel
theorem d_BH_leans_19 : decode prog_1_method_14_code 19 = .ok (.iconst 3, 1) := by decide +kernel
theorem d_BH_leans_20 : decode prog_1_method_14_code 20 = .ok (.invokestatic 175, 3) := by decide +kernel
theorem d_BH_leans_23 : decode prog_1_method_14_code 23 = .ok (.ifCond .eq 27, 3) := by decide +kernel
theorem d_BH_leans_26 : decode prog_1_method_14_code 26 = .ok (.iload 4, 2) := by decide +kernel
theorem d_BH_leans_28 : decode prog_1_method_14_code 28 = .ok (.bipush 99, 2) := by decide +kernel
theorem d_BH_leans_30 : decode prog_1_method_14_code 30 = .ok (.invokestatic 175, 3) := by decide +kernel
theorem d_BH_leans_33 : decode prog_1_method_14_code 33 = .ok (.ifCond .eq 17, 3) := by decide +kernel
theorem d_BH_leans_36 : decode prog_1_method_14_code 36 = .ok (.iload 5, 2) := by decide +kernel
theorem d_BH_leans_38 : decode prog_1_method_14_code 38 = .ok (.bipush 99, 2) := by decide +kernel
theorem d_BH_leans_40 : decode prog_1_method_14_code 40 = .ok (.invokestatic 175, 3) := by decide +kernel
theorem d_BH_leans_43 : decode prog_1_method_14_code 43 = .ok (.ifCond .eq 7, 3) := by decide +kernel
theorem d_BH_leans_46 : decode prog_1_method_14_code 46 = .ok (.iconst 1, 1) := by decide +kernel
theorem d_BH_leans_47 : decode prog_1_method_14_code 47 = .ok (.goto 4, 3) := by decide +kernel
theorem d_BH_leans_50 : decode prog_1_method_14_code 50 = .ok (.iconst 0, 1) := by decide +kernel
theorem d_BH_leans_51 : decode prog_1_method_14_code 51 = .ok (.istore 6, 2) := by decide +kernel
theorem d_BH_leans_53 : decode prog_1_method_14_code 53 = .ok (.iload 6, 2) := by decide +kernel
theorem d_BH_leans_55 : decode prog_1_method_14_code 55 = .ok (.ifCond .ne 5, 3) := by decide +kernel
theorem d_BH_leans_58 : decode prog_1_method_14_code 58 = .ok (.iconst (-1), 1) := by decide +kernel
theorem d_BH_leans_59 : decode prog_1_method_14_code 59 = .ok (.ireturn, 1) := by decide +kernel
theorem d_BH_leans_60 : decode prog_1_method_14_code 60 = .ok (.aload_n 0, 1) := by decide +kernel
theorem d_BH_leans_61 : decode prog_1_method_14_code 61 = .ok (.getfield 33, 3) := by decide +kernel
theorem d_BH_leans_64 : decode prog_1_method_14_code 64 = .ok (.iload_n 2, 1) := by decide +kernel
theorem d_BH_leans_65 : decode prog_1_method_14_code 65 = .ok (.iload_n 3, 1) := by decide +kernel
theorem d_BH_leans_66 : decode prog_1_method_14_code 66 = .ok (.iload 4, 2) := by decide +kernel
theorem d_BH_leans_68 : decode prog_1_method_14_code 68 = .ok (.iload 5, 2) := by decide +kernel
theorem d_BH_leans_70 : decode prog_1_method_14_code 70 = .ok (.invokevirtual 179, 3) := by decide +kernel
theorem d_BH_leans_73 : decode prog_1_method_14_code 73 = .ok (.aload_n 0, 1) := by decide +kernel
theorem d_BH_leans_74 : decode prog_1_method_14_code 74 = .ok (.getfield 33, 3) := by decide +kernel
theorem d_BH_leans_77 : decode prog_1_method_14_code 77 = .ok (.aload_n 0, 1) := by decide +kernel
theorem d_BH_leans_78 : decode prog_1_method_14_code 78 = .ok (.getfield 54, 3) := by decide +kernel
theorem d_BH_leans_81 : decode prog_1_method_14_code 81 = .ok (.iload_n 1, 1) := by decide +kernel
theorem d_BH_leans_82 : decode prog_1_method_14_code 82 = .ok (.iconst 5, 1) := by decide +kernel
theorem d_BH_leans_83 : decode prog_1_method_14_code 83 = .ok (.invokevirtual 150, 3) := by decide +kernel
theorem d_BH_leans_86 : decode prog_1_method_14_code 86 = .ok (.aload_n 0, 1) := by decide +kernel
theorem d_BH_leans_87 : decode prog_1_method_14_code 87 = .ok (.getfield 54, 3) := by decide +kernel
theorem d_BH_leans_90 : decode prog_1_method_14_code 90 = .ok (.iload_n 1, 1) := by decide +kernel
theorem d_BH_leans_91 : decode prog_1_method_14_code 91 = .ok (.iconst 3, 1) := by decide +kernel
theorem d_BH_leans_92 : decode prog_1_method_14_code 92 = .ok (.invokevirtual 150, 3) := by decide +kernel
theorem d_BH_leans_95 : decode prog_1_method_14_code 95 = .ok (.invokevirtual 183, 3) := by decide +kernel
theorem d_BH_leans_98 : decode prog_1_method_14_code 98 = .ok (.aload_n 0, 1) := by decide +kernel
theorem d_BH_leans_99 : decode prog_1_method_14_code 99 = .ok (.getfield 33, 3) := by decide +kernel
theorem d_BH_leans_102 : decode prog_1_method_14_code 102 = .ok (.aload_n 0, 1) := by decide +kernel
theorem d_BH_leans_103 : decode prog_1_method_14_code 103 = .ok (.getfield 54, 3) := by decide +kernel
theorem d_BH_leans_106 : decode prog_1_method_14_code 106 = .ok (.invokevirtual 187, 3) := by decide +kernel
theorem d_BH_leans_109 : decode prog_1_method_14_code 109 = .ok (.aload_n 0, 1) := by decide +kernel
theorem d_BH_leans_110 : decode prog_1_method_14_code 110 = .ok (.getfield 26, 3) := by decide +kernel
theorem d_BH_leans_113 : decode prog_1_method_14_code 113 = .ok (.getfield 111, 3) := by decide +kernel
theorem d_BH_leans_116 : decode prog_1_method_14_code 116 = .ok (.iand, 1) := by decide +kernel
theorem d_BH_leans_117 : decode prog_1_method_14_code 117 = .ok (.ifCond .eq 7, 3) := by decide +kernel
theorem d_BH_leans_120 : decode prog_1_method_14_code 120 = .ok (.iconst 1, 1) := by decide +kernel
theorem d_BH_leans_121 : decode prog_1_method_14_code 121 = .ok (.goto 4, 3) := by decide +kernel
theorem d_BH_leans_124 : decode prog_1_method_14_code 124 = .ok (.iconst 0, 1) := by decide +kernel
theorem d_BH_leans_125 : decode prog_1_method_14_code 125 = .ok (.ireturn, 1) := by decide +kernel
theorem d_Turn_coinsBehind_0 : decode prog_10_method_3_code 0 = .ok (.aload_n 0, 1) := by decide +kernel
theorem d_Turn_coinsBehind_1 : decode prog_10_method_3_code 1 = .ok (.getfield 31, 3) := by decide +kernel
theorem d_Turn_coinsBehind_4 : decode prog_10_method_3_code 4 = .ok (.iload_n 1, 1) := by decide +kernel
theorem d_Turn_coinsBehind_5 : decode prog_10_method_3_code 5 = .ok (.aload_n 0, 1) := by decide +kernel
theorem d_Turn_coinsBehind_6 : decode prog_10_method_3_code 6 = .ok (.getfield 46, 3) := by decide +kernel
theorem d_Turn_coinsBehind_9 : decode prog_10_method_3_code 9 = .ok (.imul, 1) := by decide +kernel
theorem d_Turn_coinsBehind_10 : decode prog_10_method_3_code 10 = .ok (.isub, 1) := by decide +kernel
theorem d_Turn_coinsBehind_11 : decode prog_10_method_3_code 11 = .ok (.ireturn, 1) := by decide +kernel
theorem d_Turn_isRing_0 : decode prog_10_method_6_code 0 = .ok (.iload_n 1, 1) := by decide +kernel
theorem d_Turn_isRing_1 : decode prog_10_method_6_code 1 = .ok (.aload_n 0, 1) := by decide +kernel
theorem d_Turn_isRing_2 : decode prog_10_method_6_code 2 = .ok (.getfield 40, 3) := by decide +kernel
theorem d_Turn_isRing_5 : decode prog_10_method_6_code 5 = .ok (.if_icmp .lt 7, 3) := by decide +kernel
theorem d_Turn_isRing_8 : decode prog_10_method_6_code 8 = .ok (.iconst 1, 1) := by decide +kernel
theorem d_Turn_isRing_9 : decode prog_10_method_6_code 9 = .ok (.goto 4, 3) := by decide +kernel
theorem d_Turn_isRing_12 : decode prog_10_method_6_code 12 = .ok (.iconst 0, 1) := by decide +kernel
theorem d_Turn_isRing_13 : decode prog_10_method_6_code 13 = .ok (.ireturn, 1) := by decide +kernel
theorem d_Turn_goesOn_0 : decode prog_10_method_4_code 0 = .ok (.iload_n 1, 1) := by decide +kernel
theorem d_Turn_goesOn_1 : decode prog_10_method_4_code 1 = .ok (.aload_n 0, 1) := by decide +kernel
theorem d_Turn_goesOn_2 : decode prog_10_method_4_code 2 = .ok (.getfield 52, 3) := by decide +kernel
theorem d_Turn_goesOn_5 : decode prog_10_method_4_code 5 = .ok (.if_icmp .ge 15, 3) := by decide +kernel
theorem d_Turn_goesOn_8 : decode prog_10_method_4_code 8 = .ok (.aload_n 0, 1) := by decide +kernel
theorem d_Turn_goesOn_9 : decode prog_10_method_4_code 9 = .ok (.iload_n 1, 1) := by decide +kernel
theorem d_Turn_goesOn_10 : decode prog_10_method_4_code 10 = .ok (.invokevirtual 67, 3) := by decide +kernel
theorem d_Turn_goesOn_13 : decode prog_10_method_4_code 13 = .ok (.aload_n 0, 1) := by decide +kernel
theorem d_Turn_goesOn_14 : decode prog_10_method_4_code 14 = .ok (.getfield 46, 3) := by decide +kernel
theorem d_Turn_goesOn_17 : decode prog_10_method_4_code 17 = .ok (.if_icmp .ge 5, 3) := by decide +kernel
theorem d_Turn_goesOn_20 : decode prog_10_method_4_code 20 = .ok (.iconst 0, 1) := by decide +kernel
theorem d_Turn_goesOn_21 : decode prog_10_method_4_code 21 = .ok (.ireturn, 1) := by decide +kernel
theorem d_Turn_goesOn_22 : decode prog_10_method_4_code 22 = .ok (.iload_n 1, 1) := by decide +kernel
theorem d_Turn_goesOn_23 : decode prog_10_method_4_code 23 = .ok (.ifCond .eq 24, 3) := by decide +kernel
theorem d_Turn_goesOn_26 : decode prog_10_method_4_code 26 = .ok (.aload_n 0, 1) := by decide +kernel
theorem d_Turn_goesOn_27 : decode prog_10_method_4_code 27 = .ok (.iload_n 2, 1) := by decide +kernel
theorem d_Turn_goesOn_28 : decode prog_10_method_4_code 28 = .ok (.invokevirtual 71, 3) := by decide +kernel
theorem d_Turn_goesOn_31 : decode prog_10_method_4_code 31 = .ok (.ifCond .ne 20, 3) := by decide +kernel
theorem d_Turn_goesOn_34 : decode prog_10_method_4_code 34 = .ok (.aload_n 0, 1) := by decide +kernel
theorem d_Turn_goesOn_35 : decode prog_10_method_4_code 35 = .ok (.getfield 40, 3) := by decide +kernel
theorem d_Turn_goesOn_38 : decode prog_10_method_4_code 38 = .ok (.iload_n 2, 1) := by decide +kernel
theorem d_Turn_goesOn_39 : decode prog_10_method_4_code 39 = .ok (.isub, 1) := by decide +kernel
theorem d_Turn_goesOn_40 : decode prog_10_method_4_code 40 = .ok (.aload_n 0, 1) := by decide +kernel
theorem d_Turn_goesOn_41 : decode prog_10_method_4_code 41 = .ok (.getfield 34, 3) := by decide +kernel
theorem d_Turn_goesOn_44 : decode prog_10_method_4_code 44 = .ok (.if_icmp .gt 7, 3) := by decide +kernel
theorem d_Turn_goesOn_47 : decode prog_10_method_4_code 47 = .ok (.iconst 1, 1) := by decide +kernel
theorem d_Turn_goesOn_48 : decode prog_10_method_4_code 48 = .ok (.goto 4, 3) := by decide +kernel
theorem d_Turn_goesOn_51 : decode prog_10_method_4_code 51 = .ok (.iconst 0, 1) := by decide +kernel
theorem d_Turn_goesOn_52 : decode prog_10_method_4_code 52 = .ok (.ireturn, 1) := by decide +kernel
theorem d_Tree_shareOf_0 : decode prog_9_method_7_code 0 = .ok (.aload_n 0, 1) := by decide +kernel
theorem d_Tree_shareOf_1 : decode prog_9_method_7_code 1 = .ok (.getfield 14, 3) := by decide +kernel
theorem d_Tree_shareOf_4 : decode prog_9_method_7_code 4 = .ok (.getfield 113, 3) := by decide +kernel
theorem d_Tree_shareOf_7 : decode prog_9_method_7_code 7 = .ok (.iconst 1, 1) := by decide +kernel
theorem d_Tree_shareOf_8 : decode prog_9_method_7_code 8 = .ok (.iadd, 1) := by decide +kernel
theorem d_Tree_shareOf_9 : decode prog_9_method_7_code 9 = .ok (.istore_n 3, 1) := by decide +kernel
theorem d_Tree_shareOf_10 : decode prog_9_method_7_code 10 = .ok (.iload_n 3, 1) := by decide +kernel
theorem d_Tree_shareOf_11 : decode prog_9_method_7_code 11 = .ok (.ifCond .gt 7, 3) := by decide +kernel
theorem d_Tree_shareOf_14 : decode prog_9_method_7_code 14 = .ok (.lconst 0, 1) := by decide +kernel
theorem d_Tree_shareOf_15 : decode prog_9_method_7_code 15 = .ok (.goto 7, 3) := by decide +kernel
theorem d_Tree_shareOf_18 : decode prog_9_method_7_code 18 = .ok (.lload_n 1, 1) := by decide +kernel
theorem d_Tree_shareOf_19 : decode prog_9_method_7_code 19 = .ok (.iload_n 3, 1) := by decide +kernel
theorem d_Tree_shareOf_20 : decode prog_9_method_7_code 20 = .ok (.i2l, 1) := by decide +kernel
theorem d_Tree_shareOf_21 : decode prog_9_method_7_code 21 = .ok (.ldiv, 1) := by decide +kernel
theorem d_Tree_shareOf_22 : decode prog_9_method_7_code 22 = .ok (.lreturn, 1) := by decide +kernel
theorem d_Turn_isNear_0 : decode prog_10_method_7_code 0 = .ok (.iload_n 1, 1) := by decide +kernel
theorem d_Turn_isNear_1 : decode prog_10_method_7_code 1 = .ok (.aload_n 0, 1) := by decide +kernel
theorem d_Turn_isNear_2 : decode prog_10_method_7_code 2 = .ok (.getfield 40, 3) := by decide +kernel
theorem d_Turn_isNear_5 : decode prog_10_method_7_code 5 = .ok (.if_icmp .ge 20, 3) := by decide +kernel
theorem d_Turn_isNear_8 : decode prog_10_method_7_code 8 = .ok (.aload_n 0, 1) := by decide +kernel
theorem d_Turn_isNear_9 : decode prog_10_method_7_code 9 = .ok (.getfield 40, 3) := by decide +kernel
theorem d_Turn_isNear_12 : decode prog_10_method_7_code 12 = .ok (.iload_n 1, 1) := by decide +kernel
theorem d_Turn_isNear_13 : decode prog_10_method_7_code 13 = .ok (.isub, 1) := by decide +kernel
theorem d_Turn_isNear_14 : decode prog_10_method_7_code 14 = .ok (.aload_n 0, 1) := by decide +kernel
theorem d_Turn_isNear_15 : decode prog_10_method_7_code 15 = .ok (.getfield 55, 3) := by decide +kernel
theorem d_Turn_isNear_18 : decode prog_10_method_7_code 18 = .ok (.if_icmp .gt 7, 3) := by decide +kernel
theorem d_Turn_isNear_21 : decode prog_10_method_7_code 21 = .ok (.iconst 1, 1) := by decide +kernel
theorem d_Turn_isNear_22 : decode prog_10_method_7_code 22 = .ok (.goto 4, 3) := by decide +kernel
theorem d_Turn_isNear_25 : decode prog_10_method_7_code 25 = .ok (.iconst 0, 1) := by decide +kernel
theorem d_Turn_isNear_26 : decode prog_10_method_7_code 26 = .ok (.ireturn, 1) := by decide +kernel
theorem d_Turn_brings_0 : decode prog_10_method_8_code 0 = .ok (.aload_n 0, 1) := by decide +kernel
theorem d_Turn_brings_1 : decode prog_10_method_8_code 1 = .ok (.iload_n 1, 1) := by decide +kernel
theorem d_Turn_brings_2 : decode prog_10_method_8_code 2 = .ok (.invokevirtual 71, 3) := by decide +kernel
theorem d_Turn_brings_5 : decode prog_10_method_8_code 5 = .ok (.ifCond .eq 10, 3) := by decide +kernel
theorem d_Turn_brings_8 : decode prog_10_method_8_code 8 = .ok (.aload_n 0, 1) := by decide +kernel
theorem d_Turn_brings_9 : decode prog_10_method_8_code 9 = .ok (.getfield 9, 3) := by decide +kernel
theorem d_Turn_brings_12 : decode prog_10_method_8_code 12 = .ok (.iconst 0, 1) := by decide +kernel
theorem d_Turn_brings_13 : decode prog_10_method_8_code 13 = .ok (.iaload, 1) := by decide +kernel
theorem d_Turn_brings_14 : decode prog_10_method_8_code 14 = .ok (.ireturn, 1) := by decide +kernel
theorem d_Turn_brings_15 : decode prog_10_method_8_code 15 = .ok (.aload_n 0, 1) := by decide +kernel
theorem d_Turn_brings_16 : decode prog_10_method_8_code 16 = .ok (.iload_n 1, 1) := by decide +kernel
theorem d_Turn_brings_17 : decode prog_10_method_8_code 17 = .ok (.invokevirtual 87, 3) := by decide +kernel
theorem d_Turn_brings_20 : decode prog_10_method_8_code 20 = .ok (.ifCond .eq 12, 3) := by decide +kernel
theorem d_Turn_brings_23 : decode prog_10_method_8_code 23 = .ok (.aload_n 0, 1) := by decide +kernel
theorem d_Turn_brings_24 : decode prog_10_method_8_code 24 = .ok (.getfield 9, 3) := by decide +kernel
theorem d_Turn_brings_27 : decode prog_10_method_8_code 27 = .ok (.iconst 1, 1) := by decide +kernel
theorem d_Turn_brings_28 : decode prog_10_method_8_code 28 = .ok (.iaload, 1) := by decide +kernel
theorem d_Turn_brings_29 : decode prog_10_method_8_code 29 = .ok (.goto 9, 3) := by decide +kernel
theorem d_Turn_brings_32 : decode prog_10_method_8_code 32 = .ok (.aload_n 0, 1) := by decide +kernel
theorem d_Turn_brings_33 : decode prog_10_method_8_code 33 = .ok (.getfield 9, 3) := by decide +kernel
theorem d_Turn_brings_36 : decode prog_10_method_8_code 36 = .ok (.iconst 2, 1) := by decide +kernel
theorem d_Turn_brings_37 : decode prog_10_method_8_code 37 = .ok (.iaload, 1) := by decide +kernel
theorem d_Turn_brings_38 : decode prog_10_method_8_code 38 = .ok (.ireturn, 1) := by decide +kernel
def f_Showman_join (x0 : Int32) (x1 : Int32) (x2 : Int32) (σ : St) : Option (Int32) :=
  if x0 = 10011 then
    some (x1 &&& x2)
  else
    if x0 = 10012 then
      some (x1 ||| x2)
    else
      if x0 = 10013 then
        if x2 ≤ x1 then
          some 0
        else
          some 1
      else
        if x0 = 10014 then
          if x1 ≤ x2 then
            some 0
          else
            some 1
        else
          if x0 = 10015 then
            if x1 = x2 then
              some 1
            else
              some 0
          else
            if x0 = 10019 then
              if x2 = 0 then
                some 0
              else
                bp (f_Math_floorDiv x1 x2 σ) fun r_2 =>
                some r_2
            else
              if x0 = 10020 then
                some (iMin x1 x2)
              else
                if x0 = 10021 then
                  some (iMax x1 x2)
                else
                  bp (f_Showman_reckon x0 ((x1).toInt64) ((x2).toInt64) σ) fun r_10 =>
                  some r_10
set_option maxHeartbeats 4000000 in
set_option maxRecDepth 20000 in
theorem c_Showman_join {l : Launch} {g : GX} {q : Nat → Nat} {x0 : Int32} {x1 : Int32} {x2 : Int32}  {σ : St} {r : Int32} (hf : f_Showman_join  x0 x1 x2 σ = some r) : KK l y_Showman_join prog_7_method_7_code 3 (some .int) 1 g (wX g q) σ [.int x0, .int x1, .int x2] (some (.int r)) (wX g q) σ := by
  refine KK_of (plainFor_of_name (by decide)) (Nat.le_of_ble_eq_true rfl) (fun p e s m below meth c A ls C w hl => ?_)
  have hl : lv_has ls 3 [(0, .int x0), (1, .int x1), (2, .int x2)] := hl
  obtain ⟨hx, hb, hml, hown, hts, hK, hA, hZ, hlocks, hr, hN⟩ := id C
  unfold f_Showman_join at hf
  refine lv_iload_n hx hb d_Showman_join_0 rfl (lv_at hl 0 rfl) ?_
  by_cases c10011 : x0 = 10011
  · have hf := it_e c10011 hf
    refine lv_tableIn (tgt := 60) hx hb d_Showman_join_1 (by rw [c10011]; decide) (by rw [c10011]; decide) (by rw [c10011]; rfl) (by decide) ?_
    refine lv_iload_n hx hb d_Showman_join_60 rfl (lv_at hl 1 rfl) ?_
    refine lv_iload_n hx hb d_Showman_join_61 rfl (lv_at hl 2 rfl) ?_
    refine lv_iand hx hb d_Showman_join_62 ?_
    cases some_e hf
    exact k_iret C w d_Showman_join_63
  have hf := if_e c10011 hf
  have n10011 := lv_neT c10011 (a := 10011) rfl
  by_cases c10012 : x0 = 10012
  · have hf := it_e c10012 hf
    refine lv_tableIn (tgt := 64) hx hb d_Showman_join_1 (by rw [c10012]; decide) (by rw [c10012]; decide) (by rw [c10012]; rfl) (by decide) ?_
    refine lv_iload_n hx hb d_Showman_join_64 rfl (lv_at hl 1 rfl) ?_
    refine lv_iload_n hx hb d_Showman_join_65 rfl (lv_at hl 2 rfl) ?_
    refine lv_ior hx hb d_Showman_join_66 ?_
    cases some_e hf
    exact k_iret C w d_Showman_join_67
  have hf := if_e c10012 hf
  have n10012 := lv_neT c10012 (a := 10012) rfl
  by_cases c10013 : x0 = 10013
  · have hf := it_e c10013 hf
    refine lv_tableIn (tgt := 68) hx hb d_Showman_join_1 (by rw [c10013]; decide) (by rw [c10013]; decide) (by rw [c10013]; rfl) (by decide) ?_
    refine lv_iload_n hx hb d_Showman_join_68 rfl (lv_at hl 1 rfl) ?_
    refine lv_iload_n hx hb d_Showman_join_69 rfl (lv_at hl 2 rfl) ?_
    refine lv_icmp_ge (tgt := 77) hx hb d_Showman_join_70 (by decide) (fun cd => ?_) (fun cd => ?_)
    · have hf := it_e cd hf
      refine lv_iconst (v := 0) hx hb d_Showman_join_77 (by decide) ?_
      cases some_e hf
      exact k_iret C w d_Showman_join_78
    · have hf := if_e cd hf
      refine lv_iconst (v := 1) hx hb d_Showman_join_73 (by decide) ?_
      refine lv_goto (tgt := 78) hx hb d_Showman_join_74 (by decide) ?_
      cases some_e hf
      exact k_iret C w d_Showman_join_78
  have hf := if_e c10013 hf
  have n10013 := lv_neT c10013 (a := 10013) rfl
  by_cases c10014 : x0 = 10014
  · have hf := it_e c10014 hf
    refine lv_tableIn (tgt := 79) hx hb d_Showman_join_1 (by rw [c10014]; decide) (by rw [c10014]; decide) (by rw [c10014]; rfl) (by decide) ?_
    refine lv_iload_n hx hb d_Showman_join_79 rfl (lv_at hl 1 rfl) ?_
    refine lv_iload_n hx hb d_Showman_join_80 rfl (lv_at hl 2 rfl) ?_
    refine lv_icmp_le (tgt := 88) hx hb d_Showman_join_81 (by decide) (fun cd => ?_) (fun cd => ?_)
    · have hf := it_e cd hf
      refine lv_iconst (v := 0) hx hb d_Showman_join_88 (by decide) ?_
      cases some_e hf
      exact k_iret C w d_Showman_join_89
    · have hf := if_e cd hf
      refine lv_iconst (v := 1) hx hb d_Showman_join_84 (by decide) ?_
      refine lv_goto (tgt := 89) hx hb d_Showman_join_85 (by decide) ?_
      cases some_e hf
      exact k_iret C w d_Showman_join_89
  have hf := if_e c10014 hf
  have n10014 := lv_neT c10014 (a := 10014) rfl
  by_cases c10015 : x0 = 10015
  · have hf := it_e c10015 hf
    refine lv_tableIn (tgt := 90) hx hb d_Showman_join_1 (by rw [c10015]; decide) (by rw [c10015]; decide) (by rw [c10015]; rfl) (by decide) ?_
    refine lv_iload_n hx hb d_Showman_join_90 rfl (lv_at hl 1 rfl) ?_
    refine lv_iload_n hx hb d_Showman_join_91 rfl (lv_at hl 2 rfl) ?_
    refine lv_icmp_ne (tgt := 99) hx hb d_Showman_join_92 (by decide) (fun cd => ?_) (fun cd => ?_)
    · have hf := if_e cd hf
      refine lv_iconst (v := 0) hx hb d_Showman_join_99 (by decide) ?_
      cases some_e hf
      exact k_iret C w d_Showman_join_100
    · have hf := it_e cd hf
      refine lv_iconst (v := 1) hx hb d_Showman_join_95 (by decide) ?_
      refine lv_goto (tgt := 100) hx hb d_Showman_join_96 (by decide) ?_
      cases some_e hf
      exact k_iret C w d_Showman_join_100
  have hf := if_e c10015 hf
  have n10015 := lv_neT c10015 (a := 10015) rfl
  by_cases c10019 : x0 = 10019
  · have hf := it_e c10019 hf
    refine lv_tableIn (tgt := 113) hx hb d_Showman_join_1 (by rw [c10019]; decide) (by rw [c10019]; decide) (by rw [c10019]; rfl) (by decide) ?_
    refine lv_iload_n hx hb d_Showman_join_113 rfl (lv_at hl 2 rfl) ?_
    refine lv_if_ne (tgt := 121) hx hb d_Showman_join_114 (by decide) (fun cd => ?_) (fun cd => ?_)
    · have hf := if_e cd hf
      refine lv_iload_n hx hb d_Showman_join_121 rfl (lv_at hl 1 rfl) ?_
      refine lv_iload_n hx hb d_Showman_join_122 rfl (lv_at hl 2 rfl) ?_
      obtain ⟨r_2, h_1, hf⟩ := bp_e hf
      refine k_callS (As := [.int x1, .int x2]) (rest := []) C w (c_Math_floorDiv (q := q) h_1) cv_Math_floorDiv k829 (by decide) hl.1 rfl (Nat.le_of_ble_eq_true rfl) d_Showman_join_123 (fun H locs w => ?_)
      show WK p l e s m _ below meth c 1 g (wX g q) A (some (.int r)) σ H locs (F0 m 126 ls [.int r_2])
      cases some_e hf
      exact k_iret C w d_Showman_join_126
    · have hf := it_e cd hf
      refine lv_iconst (v := 0) hx hb d_Showman_join_117 (by decide) ?_
      refine lv_goto (tgt := 126) hx hb d_Showman_join_118 (by decide) ?_
      cases some_e hf
      exact k_iret C w d_Showman_join_126
  have hf := if_e c10019 hf
  have n10019 := lv_neT c10019 (a := 10019) rfl
  by_cases c10020 : x0 = 10020
  · have hf := it_e c10020 hf
    refine lv_tableIn (tgt := 101) hx hb d_Showman_join_1 (by rw [c10020]; decide) (by rw [c10020]; decide) (by rw [c10020]; rfl) (by decide) ?_
    refine lv_iload_n hx hb d_Showman_join_101 rfl (lv_at hl 1 rfl) ?_
    refine lv_iload_n hx hb d_Showman_join_102 rfl (lv_at hl 2 rfl) ?_
    refine r_min C hl.1 (by omega) (Nat.le_of_ble_eq_true rfl) k827 d_Showman_join_103 ?_
    cases some_e hf
    exact k_iret C w d_Showman_join_106
  have hf := if_e c10020 hf
  have n10020 := lv_neT c10020 (a := 10020) rfl
  by_cases c10021 : x0 = 10021
  · have hf := it_e c10021 hf
    refine lv_tableIn (tgt := 107) hx hb d_Showman_join_1 (by rw [c10021]; decide) (by rw [c10021]; decide) (by rw [c10021]; rfl) (by decide) ?_
    refine lv_iload_n hx hb d_Showman_join_107 rfl (lv_at hl 1 rfl) ?_
    refine lv_iload_n hx hb d_Showman_join_108 rfl (lv_at hl 2 rfl) ?_
    refine r_max C hl.1 (by omega) (Nat.le_of_ble_eq_true rfl) k828 d_Showman_join_109 ?_
    cases some_e hf
    exact k_iret C w d_Showman_join_112
  have hf := if_e c10021 hf
  have n10021 := lv_neT c10021 (a := 10021) rfl
  by_cases c10016 : x0 = 10016
  · refine lv_tableIn (tgt := 127) hx hb d_Showman_join_1 (by rw [c10016]; decide) (by rw [c10016]; decide) (by rw [c10016]; rfl) (by decide) ?_
    refine lv_iload_n hx hb d_Showman_join_127 rfl (lv_at hl 0 rfl) ?_
    refine lv_iload_n hx hb d_Showman_join_128 rfl (lv_at hl 1 rfl) ?_
    refine lv_i2l hx hb d_Showman_join_129 rfl ?_
    refine lv_iload_n hx hb d_Showman_join_130 rfl (lv_at hl 2 rfl) ?_
    refine lv_i2l hx hb d_Showman_join_131 rfl ?_
    obtain ⟨r_4, h_3, hf⟩ := bp_e hf
    refine k_callS (As := [.int x0, .long (x1).toInt64, .long (x2).toInt64]) (rest := []) C w (c_Showman_reckon (q := q) h_3) cv_Showman_reckon k832 (by decide) hl.1 rfl (Nat.le_of_ble_eq_true rfl) d_Showman_join_132 (fun H locs w => ?_)
    show WK p l e s m _ below meth c 1 g (wX g q) A (some (.int r)) σ H locs (F0 m 135 ls [.int r_4])
    cases some_e hf
    exact k_iret C w d_Showman_join_135
  have n10016 := lv_neT c10016 (a := 10016) rfl
  by_cases c10017 : x0 = 10017
  · refine lv_tableIn (tgt := 127) hx hb d_Showman_join_1 (by rw [c10017]; decide) (by rw [c10017]; decide) (by rw [c10017]; rfl) (by decide) ?_
    refine lv_iload_n hx hb d_Showman_join_127 rfl (lv_at hl 0 rfl) ?_
    refine lv_iload_n hx hb d_Showman_join_128 rfl (lv_at hl 1 rfl) ?_
    refine lv_i2l hx hb d_Showman_join_129 rfl ?_
    refine lv_iload_n hx hb d_Showman_join_130 rfl (lv_at hl 2 rfl) ?_
    refine lv_i2l hx hb d_Showman_join_131 rfl ?_
    obtain ⟨r_6, h_5, hf⟩ := bp_e hf
    refine k_callS (As := [.int x0, .long (x1).toInt64, .long (x2).toInt64]) (rest := []) C w (c_Showman_reckon (q := q) h_5) cv_Showman_reckon k832 (by decide) hl.1 rfl (Nat.le_of_ble_eq_true rfl) d_Showman_join_132 (fun H locs w => ?_)
    show WK p l e s m _ below meth c 1 g (wX g q) A (some (.int r)) σ H locs (F0 m 135 ls [.int r_6])
    cases some_e hf
    exact k_iret C w d_Showman_join_135
  have n10017 := lv_neT c10017 (a := 10017) rfl
  by_cases c10018 : x0 = 10018
  · refine lv_tableIn (tgt := 127) hx hb d_Showman_join_1 (by rw [c10018]; decide) (by rw [c10018]; decide) (by rw [c10018]; rfl) (by decide) ?_
    refine lv_iload_n hx hb d_Showman_join_127 rfl (lv_at hl 0 rfl) ?_
    refine lv_iload_n hx hb d_Showman_join_128 rfl (lv_at hl 1 rfl) ?_
    refine lv_i2l hx hb d_Showman_join_129 rfl ?_
    refine lv_iload_n hx hb d_Showman_join_130 rfl (lv_at hl 2 rfl) ?_
    refine lv_i2l hx hb d_Showman_join_131 rfl ?_
    obtain ⟨r_8, h_7, hf⟩ := bp_e hf
    refine k_callS (As := [.int x0, .long (x1).toInt64, .long (x2).toInt64]) (rest := []) C w (c_Showman_reckon (q := q) h_7) cv_Showman_reckon k832 (by decide) hl.1 rfl (Nat.le_of_ble_eq_true rfl) d_Showman_join_132 (fun H locs w => ?_)
    show WK p l e s m _ below meth c 1 g (wX g q) A (some (.int r)) σ H locs (F0 m 135 ls [.int r_8])
    cases some_e hf
    exact k_iret C w d_Showman_join_135
  have n10018 := lv_neT c10018 (a := 10018) rfl
  refine lv_tableOut (tgt := 127) hx hb d_Showman_join_1 (by omega) (by decide) ?_
  refine lv_iload_n hx hb d_Showman_join_127 rfl (lv_at hl 0 rfl) ?_
  refine lv_iload_n hx hb d_Showman_join_128 rfl (lv_at hl 1 rfl) ?_
  refine lv_i2l hx hb d_Showman_join_129 rfl ?_
  refine lv_iload_n hx hb d_Showman_join_130 rfl (lv_at hl 2 rfl) ?_
  refine lv_i2l hx hb d_Showman_join_131 rfl ?_
  obtain ⟨r_10, h_9, hf⟩ := bp_e hf
  refine k_callS (As := [.int x0, .long (x1).toInt64, .long (x2).toInt64]) (rest := []) C w (c_Showman_reckon (q := q) h_9) cv_Showman_reckon k832 (by decide) hl.1 rfl (Nat.le_of_ble_eq_true rfl) d_Showman_join_132 (fun H locs w => ?_)
  show WK p l e s m _ below meth c 1 g (wX g q) A (some (.int r)) σ H locs (F0 m 135 ls [.int r_10])
  cases some_e hf
  exact k_iret C w d_Showman_join_135
def f_Showman_valueOf (x1 : Int32) (σ : St) : Option (Int32) :=
  lt ((x1 - 10000)) fun x_1 =>
  if 0 ≤ x_1 then
    if 6 ≤ x_1 then
      some 0
    else
      gd (inB x_1 6) <|
      some (sA σ 14 x_1.toNatClampNeg)
  else
    some x1
set_option maxHeartbeats 4000000 in
set_option maxRecDepth 20000 in
theorem c_Showman_valueOf {l : Launch} {g : GX} {q : Nat → Nat} {x1 : Int32}  {σ : St} {r : Int32} (hf : f_Showman_valueOf  x1 σ = some r) : KK l y_Showman_valueOf prog_7_method_6_code 3 (some .int) 0 g (wX g q) σ [.ref (q 20), .int x1] (some (.int r)) (wX g q) σ := by
  refine KK_of (plainFor_of_name (by decide)) (Nat.le_of_ble_eq_true rfl) (fun p e s m below meth c A ls C w hl => ?_)
  have hl : lv_has ls 3 [(0, .ref (q 20)), (1, .int x1)] := hl
  obtain ⟨hx, hb, hml, hown, hts, hK, hA, hZ, hlocks, hr, hN⟩ := id C
  unfold f_Showman_valueOf at hf
  refine lv_iload_n hx hb d_Showman_valueOf_0 rfl (lv_at hl 1 rfl) ?_
  refine lv_sipush (v := 10000) hx hb d_Showman_valueOf_1 (by decide) ?_
  refine lv_isub hx hb d_Showman_valueOf_4 ?_
  refine lv_topi (fun x_1 ex_1 => ?_)
  have hf := lt_e ex_1 hf
  refine lv_istore_n (lv' := [(2, .int x_1), (0, .ref (q 20)), (1, .int x1)]) hx hb d_Showman_valueOf_5 rfl hl (by decide) rfl (fun ls hl => ?_)
  refine lv_iload_n hx hb d_Showman_valueOf_6 rfl (lv_at hl 0 rfl) ?_
  refine lv_if_ge (tgt := 12) hx hb d_Showman_valueOf_7 (by decide) (fun cd => ?_) (fun cd => ?_)
  · have hf := it_e cd hf
    refine lv_iload_n hx hb d_Showman_valueOf_12 rfl (lv_at hl 0 rfl) ?_
    refine lv_aload_n hx hb d_Showman_valueOf_13 rfl (lv_at hl 1 rfl) ?_
    refine xg_20_facts C w k391 d_Showman_valueOf_14 ?_
    refine xn_21 C w d_Showman_valueOf_17 ?_
    refine lv_icmp_ge (tgt := 30) hx hb d_Showman_valueOf_18 (by decide) (fun cd => ?_) (fun cd => ?_)
    · have hf := it_e cd hf
      refine lv_iconst (v := 0) hx hb d_Showman_valueOf_30 (by decide) ?_
      cases some_e hf
      exact k_iret C w d_Showman_valueOf_31
    · have hf := if_e cd hf
      refine lv_aload_n hx hb d_Showman_valueOf_21 rfl (lv_at hl 1 rfl) ?_
      refine xg_20_facts C w k391 d_Showman_valueOf_22 ?_
      refine lv_iload_n hx hb d_Showman_valueOf_25 rfl (lv_at hl 0 rfl) ?_
      obtain ⟨g_2, hf⟩ := gd_e hf
      refine xl_21 C w g_2 d_Showman_valueOf_26 ?_
      refine lv_goto (tgt := 31) hx hb d_Showman_valueOf_27 (by decide) ?_
      cases some_e hf
      exact k_iret C w d_Showman_valueOf_31
  · have hf := if_e cd hf
    refine lv_iload_n hx hb d_Showman_valueOf_10 rfl (lv_at hl 2 rfl) ?_
    cases some_e hf
    exact k_iret C w d_Showman_valueOf_11
def f_Showman_holds_145 (x4 : Int32) (σ : St) : Option (Int32 × St) :=
  if x4 ≤ 0 then
    some (0, σ)
  else
    gd (inB (x4 - 1) 64) <|
    if (sA σ 15 (x4 - 1).toNatClampNeg) = 0 then
      some (0, σ)
    else
      some (1, σ)
def f_Showman_holds_6b (k6 : Int32 → Int32 → Int32 → St → Option (Int32 × St)) (x3 : Int32) (x4 : Int32) (x5 : Int32) (σ : St) : Option (Int32 × St) :=
  if x3 ≤ x5 then
    f_Showman_holds_145 x4 σ
  else
    if 1600 ≤ x5 then
      f_Showman_holds_145 x4 σ
    else
      gd (inB x5 1600) <|
      lt ((sA σ 26 x5.toNatClampNeg)) fun x_2 =>
      if 10010 ≤ x_2 then
        if x_2 = 10010 then
          if x4 ≤ 0 then
            lt ((x5 + 1)) fun x_12 =>
            k6 x3 x4 x_12 σ
          else
            gd (inB (x4 - 1) 64) <|
            gd (inB (x4 - 1) 64) <|
            lt (uA σ 15 (upd (sA σ 15) (x4 - 1).toNatClampNeg (1 - (sA σ 15 (x4 - 1).toNatClampNeg)))) fun σ_15 =>
            lt ((x5 + 1)) fun x_16 =>
            k6 x3 x4 x_16 σ_15
        else
          if x4 ≤ 1 then
            lt ((x5 + 1)) fun x_3 =>
            k6 x3 x4 x_3 σ
          else
            gd (inB (x4 - 2) 64) <|
            gd (inB (x4 - 1) 64) <|
            bp (f_Showman_join x_2 (sA σ 15 (x4 - 2).toNatClampNeg) (sA σ 15 (x4 - 1).toNatClampNeg) σ) fun r_7 =>
            gd (inB (x4 - 2) 64) <|
            lt (uA σ 15 (upd (sA σ 15) (x4 - 2).toNatClampNeg r_7)) fun σ_9 =>
            lt ((x4 + (-1))) fun x_10 =>
            lt ((x5 + 1)) fun x_11 =>
            k6 x3 x_10 x_11 σ_9
      else
        if 64 ≤ x4 then
          lt ((x5 + 1)) fun x_17 =>
          k6 x3 x4 x_17 σ
        else
          bp (f_Showman_valueOf x_2 σ) fun r_19 =>
          gd (inB x4 64) <|
          lt (uA σ 15 (upd (sA σ 15) x4.toNatClampNeg r_19)) fun σ_21 =>
          lt ((x4 + 1)) fun x_22 =>
          lt ((x5 + 1)) fun x_23 =>
          k6 x3 x_22 x_23 σ_21
def f_Showman_holds_6 : Nat → Int32 → Int32 → Int32 → St → Option (Int32 × St)
  | 0 => fun _ _ _ _ => none
  | n + 1 => f_Showman_holds_6b   (f_Showman_holds_6   n)
def f_Showman_holds (x2 : Int32) (x3 : Int32) (σ : St) : Option (Int32 × St) :=
  f_Showman_holds_6 FU x3 0 x2 σ
set_option maxHeartbeats 4000000 in
set_option maxRecDepth 20000 in
theorem t_Showman_holds_145 {r : Int32} {σ2 : St} (C : Cx g A p s m av meth c prog_7_method_5_code 7 "BellHammer$Showman" (some .boolean))  {x4 : Int32} {σ : St} {H : Heap} {locs : List Loc} {ls : Array Slot} (hf : f_Showman_holds_145   x4 σ = some (r, σ2)) (w : Wd g (wX g q) A s σ H locs) (hl : lv_has ls 7 [(0, .ref (q 20)), (4, .int x4)]) : WK p l e s m av below meth c 2 g (wX g q) A (some (.int r)) σ2 H locs (F0 m 145 ls []) := by
  obtain ⟨hx, hb, hml, hown, hts, hK, hA, hZ, hlocks, hr, hN⟩ := id C
  unfold f_Showman_holds_145 at hf
  refine lv_iload hx hb d_Showman_holds_145 (lv_at hl 1 rfl) ?_
  refine lv_if_le (tgt := 166) hx hb d_Showman_holds_147 (by decide) (fun cd => ?_) (fun cd => ?_)
  · have hf := it_e cd hf
    refine lv_iconst (v := 0) hx hb d_Showman_holds_166 (by decide) ?_
    obtain ⟨rfl, rfl⟩ := some2_e hf
    exact k_zret C w (by decide) d_Showman_holds_167
  · have hf := if_e cd hf
    refine lv_aload_n hx hb d_Showman_holds_150 rfl (lv_at hl 0 rfl) ?_
    refine xg_20_stack C w k392 d_Showman_holds_151 ?_
    refine lv_iload hx hb d_Showman_holds_154 (lv_at hl 1 rfl) ?_
    refine lv_iconst (v := 1) hx hb d_Showman_holds_156 (by decide) ?_
    refine lv_isub hx hb d_Showman_holds_157 ?_
    obtain ⟨g_1, hf⟩ := gd_e hf
    refine xl_22 C w g_1 d_Showman_holds_158 ?_
    refine lv_if_eq (tgt := 166) hx hb d_Showman_holds_159 (by decide) (fun cd => ?_) (fun cd => ?_)
    · have hf := it_e cd hf
      refine lv_iconst (v := 0) hx hb d_Showman_holds_166 (by decide) ?_
      obtain ⟨rfl, rfl⟩ := some2_e hf
      exact k_zret C w (by decide) d_Showman_holds_167
    · have hf := if_e cd hf
      refine lv_iconst (v := 1) hx hb d_Showman_holds_162 (by decide) ?_
      refine lv_goto (tgt := 167) hx hb d_Showman_holds_163 (by decide) ?_
      obtain ⟨rfl, rfl⟩ := some2_e hf
      exact k_zret C w (by decide) d_Showman_holds_167
set_option maxHeartbeats 4000000 in
set_option maxRecDepth 20000 in
theorem t_Showman_holds_6b {r : Int32} {σ2 : St} (C : Cx g A p s m av meth c prog_7_method_5_code 7 "BellHammer$Showman" (some .boolean)) {k6 : Int32 → Int32 → Int32 → St → Option (Int32 × St)} (hk6 : ∀ (x3 : Int32) (x4 : Int32) (x5 : Int32) (σ : St) (H : Heap) (locs : List Loc) (ls : Array Slot), k6 x3 x4 x5 σ = some (r, σ2) → Wd g (wX g q) A s σ H locs → lv_has ls 7 [(0, .ref (q 20)), (1, .ref (q 40)), (3, .int x3), (4, .int x4), (5, .int x5)] → WK p l e s m av below meth c 2 g (wX g q) A (some (.int r)) σ2 H locs (F0 m 6 ls []))  {x3 : Int32} {x4 : Int32} {x5 : Int32} {σ : St} {H : Heap} {locs : List Loc} {ls : Array Slot} (hf : f_Showman_holds_6b  k6 x3 x4 x5 σ = some (r, σ2)) (w : Wd g (wX g q) A s σ H locs) (hl : lv_has ls 7 [(0, .ref (q 20)), (1, .ref (q 40)), (3, .int x3), (4, .int x4), (5, .int x5)]) : WK p l e s m av below meth c 2 g (wX g q) A (some (.int r)) σ2 H locs (F0 m 6 ls []) := by
  obtain ⟨hx, hb, hml, hown, hts, hK, hA, hZ, hlocks, hr, hN⟩ := id C
  unfold f_Showman_holds_6b at hf
  refine lv_iload hx hb d_Showman_holds_6 (lv_at hl 4 rfl) ?_
  refine lv_iload_n hx hb d_Showman_holds_8 rfl (lv_at hl 2 rfl) ?_
  refine lv_icmp_ge (tgt := 145) hx hb d_Showman_holds_9 (by decide) (fun cd => ?_) (fun cd => ?_)
  · have hf := it_e cd hf
    exact t_Showman_holds_145 C  hf w (lv_sub hl [0, 3] rfl)
  · have hf := if_e cd hf
    refine lv_iload hx hb d_Showman_holds_12 (lv_at hl 4 rfl) ?_
    refine lv_aload_n hx hb d_Showman_holds_14 rfl (lv_at hl 1 rfl) ?_
    refine xn_40 C w d_Showman_holds_15 ?_
    refine lv_icmp_ge (tgt := 145) hx hb d_Showman_holds_16 (by decide) (fun cd => ?_) (fun cd => ?_)
    · have hf := it_e cd hf
      exact t_Showman_holds_145 C  hf w (lv_sub hl [0, 3] rfl)
    · have hf := if_e cd hf
      refine lv_aload_n hx hb d_Showman_holds_19 rfl (lv_at hl 1 rfl) ?_
      refine lv_iload hx hb d_Showman_holds_20 (lv_at hl 4 rfl) ?_
      obtain ⟨g_1, hf⟩ := gd_e hf
      refine xl_40 C w g_1 d_Showman_holds_22 ?_
      refine lv_topi (fun x_2 ex_2 => ?_)
      have hf := lt_e ex_2 hf
      refine lv_istore (lv' := [(6, .int x_2), (0, .ref (q 20)), (1, .ref (q 40)), (3, .int x3), (4, .int x4), (5, .int x5)]) hx hb d_Showman_holds_23 hl (by decide) rfl (fun ls hl => ?_)
      refine lv_iload hx hb d_Showman_holds_25 (lv_at hl 0 rfl) ?_
      refine lv_sipush (v := 10010) hx hb d_Showman_holds_27 (by decide) ?_
      refine lv_icmp_ge (tgt := 62) hx hb d_Showman_holds_30 (by decide) (fun cd => ?_) (fun cd => ?_)
      · have hf := it_e cd hf
        refine lv_iload hx hb d_Showman_holds_62 (lv_at hl 0 rfl) ?_
        refine lv_sipush (v := 10010) hx hb d_Showman_holds_64 (by decide) ?_
        refine lv_icmp_ne (tgt := 98) hx hb d_Showman_holds_67 (by decide) (fun cd => ?_) (fun cd => ?_)
        · have hf := if_e cd hf
          refine lv_iload hx hb d_Showman_holds_98 (lv_at hl 4 rfl) ?_
          refine lv_iconst (v := 1) hx hb d_Showman_holds_100 (by decide) ?_
          refine lv_icmp_le (tgt := 139) hx hb d_Showman_holds_101 (by decide) (fun cd => ?_) (fun cd => ?_)
          · have hf := it_e cd hf
            obtain ⟨x_3, ex_3⟩ : ∃ y : Int32, y = (x5 + 1) := ⟨_, rfl⟩
            have hf := lt_e ex_3 hf
            refine lv_iinc (v := x_3) (lv' := [(5, .int x_3), (6, .int x_2), (0, .ref (q 20)), (1, .ref (q 40)), (3, .int x3), (4, .int x4)]) hx hb d_Showman_holds_139 hl (k := 5) rfl (by rw [ex_3]; rfl) (by decide) rfl (fun ls hl => ?_)
            refine lv_goto (tgt := 6) hx hb d_Showman_holds_142 (by decide) ?_
            exact hk6 x3 x4 x_3 σ _ _ _ hf w (lv_sub hl [2, 3, 4, 5, 0] rfl)
          · have hf := if_e cd hf
            refine lv_aload_n hx hb d_Showman_holds_104 rfl (lv_at hl 1 rfl) ?_
            refine xg_20_stack C w k392 d_Showman_holds_105 ?_
            refine lv_iload hx hb d_Showman_holds_108 (lv_at hl 4 rfl) ?_
            refine lv_iconst (v := 2) hx hb d_Showman_holds_110 (by decide) ?_
            refine lv_isub hx hb d_Showman_holds_111 ?_
            refine lv_iload hx hb d_Showman_holds_112 (lv_at hl 0 rfl) ?_
            refine lv_aload_n hx hb d_Showman_holds_114 rfl (lv_at hl 1 rfl) ?_
            refine xg_20_stack C w k392 d_Showman_holds_115 ?_
            refine lv_iload hx hb d_Showman_holds_118 (lv_at hl 4 rfl) ?_
            refine lv_iconst (v := 2) hx hb d_Showman_holds_120 (by decide) ?_
            refine lv_isub hx hb d_Showman_holds_121 ?_
            obtain ⟨g_4, hf⟩ := gd_e hf
            refine xl_22 C w g_4 d_Showman_holds_122 ?_
            refine lv_aload_n hx hb d_Showman_holds_123 rfl (lv_at hl 1 rfl) ?_
            refine xg_20_stack C w k392 d_Showman_holds_124 ?_
            refine lv_iload hx hb d_Showman_holds_127 (lv_at hl 4 rfl) ?_
            refine lv_iconst (v := 1) hx hb d_Showman_holds_129 (by decide) ?_
            refine lv_isub hx hb d_Showman_holds_130 ?_
            obtain ⟨g_5, hf⟩ := gd_e hf
            refine xl_22 C w g_5 d_Showman_holds_131 ?_
            obtain ⟨r_7, h_6, hf⟩ := bp_e hf
            refine k_callS (As := [.int x_2, .int (sA σ 15 (x4 - 2).toNatClampNeg), .int (sA σ 15 (x4 - 1).toNatClampNeg)]) (rest := [.int (x4 - 2), .ref (q 22)]) C w (c_Showman_join (q := q) h_6) cv_Showman_join k824 (by decide) hl.1 rfl (Nat.le_of_ble_eq_true rfl) d_Showman_holds_132 (fun H locs w => ?_)
            show WK p l e s m av below meth c 2 g (wX g q) A (some (.int r)) σ2 H locs (F0 m 135 ls [.int r_7, .int (x4 - 2), .ref (q 22)])
            obtain ⟨g_8, hf⟩ := gd_e hf
            refine xs_22 C w g_8 d_Showman_holds_135 (fun σ_9 H locs eσ_9 w => ?_)
            have hf := lt_e eσ_9 hf
            obtain ⟨x_10, ex_10⟩ : ∃ y : Int32, y = (x4 + (-1)) := ⟨_, rfl⟩
            have hf := lt_e ex_10 hf
            refine lv_iinc (v := x_10) (lv' := [(4, .int x_10), (6, .int x_2), (0, .ref (q 20)), (1, .ref (q 40)), (3, .int x3), (5, .int x5)]) hx hb d_Showman_holds_136 hl (k := 4) rfl (by rw [ex_10]; rfl) (by decide) rfl (fun ls hl => ?_)
            obtain ⟨x_11, ex_11⟩ : ∃ y : Int32, y = (x5 + 1) := ⟨_, rfl⟩
            have hf := lt_e ex_11 hf
            refine lv_iinc (v := x_11) (lv' := [(5, .int x_11), (4, .int x_10), (6, .int x_2), (0, .ref (q 20)), (1, .ref (q 40)), (3, .int x3)]) hx hb d_Showman_holds_139 hl (k := 5) rfl (by rw [ex_11]; rfl) (by decide) rfl (fun ls hl => ?_)
            refine lv_goto (tgt := 6) hx hb d_Showman_holds_142 (by decide) ?_
            exact hk6 x3 x_10 x_11 σ_9 _ _ _ hf w (lv_sub hl [3, 4, 5, 1, 0] rfl)
        · have hf := it_e cd hf
          refine lv_iload hx hb d_Showman_holds_70 (lv_at hl 4 rfl) ?_
          refine lv_if_le (tgt := 139) hx hb d_Showman_holds_72 (by decide) (fun cd => ?_) (fun cd => ?_)
          · have hf := it_e cd hf
            obtain ⟨x_12, ex_12⟩ : ∃ y : Int32, y = (x5 + 1) := ⟨_, rfl⟩
            have hf := lt_e ex_12 hf
            refine lv_iinc (v := x_12) (lv' := [(5, .int x_12), (6, .int x_2), (0, .ref (q 20)), (1, .ref (q 40)), (3, .int x3), (4, .int x4)]) hx hb d_Showman_holds_139 hl (k := 5) rfl (by rw [ex_12]; rfl) (by decide) rfl (fun ls hl => ?_)
            refine lv_goto (tgt := 6) hx hb d_Showman_holds_142 (by decide) ?_
            exact hk6 x3 x4 x_12 σ _ _ _ hf w (lv_sub hl [2, 3, 4, 5, 0] rfl)
          · have hf := if_e cd hf
            refine lv_aload_n hx hb d_Showman_holds_75 rfl (lv_at hl 1 rfl) ?_
            refine xg_20_stack C w k392 d_Showman_holds_76 ?_
            refine lv_iload hx hb d_Showman_holds_79 (lv_at hl 4 rfl) ?_
            refine lv_iconst (v := 1) hx hb d_Showman_holds_81 (by decide) ?_
            refine lv_isub hx hb d_Showman_holds_82 ?_
            refine lv_iconst (v := 1) hx hb d_Showman_holds_83 (by decide) ?_
            refine lv_aload_n hx hb d_Showman_holds_84 rfl (lv_at hl 1 rfl) ?_
            refine xg_20_stack C w k392 d_Showman_holds_85 ?_
            refine lv_iload hx hb d_Showman_holds_88 (lv_at hl 4 rfl) ?_
            refine lv_iconst (v := 1) hx hb d_Showman_holds_90 (by decide) ?_
            refine lv_isub hx hb d_Showman_holds_91 ?_
            obtain ⟨g_13, hf⟩ := gd_e hf
            refine xl_22 C w g_13 d_Showman_holds_92 ?_
            refine lv_isub hx hb d_Showman_holds_93 ?_
            obtain ⟨g_14, hf⟩ := gd_e hf
            refine xs_22 C w g_14 d_Showman_holds_94 (fun σ_15 H locs eσ_15 w => ?_)
            have hf := lt_e eσ_15 hf
            refine lv_goto (tgt := 139) hx hb d_Showman_holds_95 (by decide) ?_
            obtain ⟨x_16, ex_16⟩ : ∃ y : Int32, y = (x5 + 1) := ⟨_, rfl⟩
            have hf := lt_e ex_16 hf
            refine lv_iinc (v := x_16) (lv' := [(5, .int x_16), (6, .int x_2), (0, .ref (q 20)), (1, .ref (q 40)), (3, .int x3), (4, .int x4)]) hx hb d_Showman_holds_139 hl (k := 5) rfl (by rw [ex_16]; rfl) (by decide) rfl (fun ls hl => ?_)
            refine lv_goto (tgt := 6) hx hb d_Showman_holds_142 (by decide) ?_
            exact hk6 x3 x4 x_16 σ_15 _ _ _ hf w (lv_sub hl [2, 3, 4, 5, 0] rfl)
      · have hf := if_e cd hf
        refine lv_iload hx hb d_Showman_holds_33 (lv_at hl 4 rfl) ?_
        refine lv_aload_n hx hb d_Showman_holds_35 rfl (lv_at hl 1 rfl) ?_
        refine xg_20_stack C w k392 d_Showman_holds_36 ?_
        refine xn_22 C w d_Showman_holds_39 ?_
        refine lv_icmp_ge (tgt := 139) hx hb d_Showman_holds_40 (by decide) (fun cd => ?_) (fun cd => ?_)
        · have hf := it_e cd hf
          obtain ⟨x_17, ex_17⟩ : ∃ y : Int32, y = (x5 + 1) := ⟨_, rfl⟩
          have hf := lt_e ex_17 hf
          refine lv_iinc (v := x_17) (lv' := [(5, .int x_17), (6, .int x_2), (0, .ref (q 20)), (1, .ref (q 40)), (3, .int x3), (4, .int x4)]) hx hb d_Showman_holds_139 hl (k := 5) rfl (by rw [ex_17]; rfl) (by decide) rfl (fun ls hl => ?_)
          refine lv_goto (tgt := 6) hx hb d_Showman_holds_142 (by decide) ?_
          exact hk6 x3 x4 x_17 σ _ _ _ hf w (lv_sub hl [2, 3, 4, 5, 0] rfl)
        · have hf := if_e cd hf
          refine lv_aload_n hx hb d_Showman_holds_43 rfl (lv_at hl 1 rfl) ?_
          refine xg_20_stack C w k392 d_Showman_holds_44 ?_
          refine lv_iload hx hb d_Showman_holds_47 (lv_at hl 4 rfl) ?_
          refine lv_aload_n hx hb d_Showman_holds_49 rfl (lv_at hl 1 rfl) ?_
          refine lv_iload hx hb d_Showman_holds_50 (lv_at hl 0 rfl) ?_
          obtain ⟨r_19, h_18, hf⟩ := bp_e hf
          refine k_callV (As := [.int x_2]) (rest := [.int x4, .ref (q 22)]) C w (c_Showman_valueOf (q := q) h_18) cv_Showman_valueOf k820 (xr_20 C w) (by decide) hl.1 rfl (Nat.le_of_ble_eq_true rfl) d_Showman_holds_52 (fun H locs w => ?_)
          show WK p l e s m av below meth c 2 g (wX g q) A (some (.int r)) σ2 H locs (F0 m 55 ls [.int r_19, .int x4, .ref (q 22)])
          obtain ⟨g_20, hf⟩ := gd_e hf
          refine xs_22 C w g_20 d_Showman_holds_55 (fun σ_21 H locs eσ_21 w => ?_)
          have hf := lt_e eσ_21 hf
          obtain ⟨x_22, ex_22⟩ : ∃ y : Int32, y = (x4 + 1) := ⟨_, rfl⟩
          have hf := lt_e ex_22 hf
          refine lv_iinc (v := x_22) (lv' := [(4, .int x_22), (6, .int x_2), (0, .ref (q 20)), (1, .ref (q 40)), (3, .int x3), (5, .int x5)]) hx hb d_Showman_holds_56 hl (k := 4) rfl (by rw [ex_22]; rfl) (by decide) rfl (fun ls hl => ?_)
          refine lv_goto (tgt := 139) hx hb d_Showman_holds_59 (by decide) ?_
          obtain ⟨x_23, ex_23⟩ : ∃ y : Int32, y = (x5 + 1) := ⟨_, rfl⟩
          have hf := lt_e ex_23 hf
          refine lv_iinc (v := x_23) (lv' := [(5, .int x_23), (4, .int x_22), (6, .int x_2), (0, .ref (q 20)), (1, .ref (q 40)), (3, .int x3)]) hx hb d_Showman_holds_139 hl (k := 5) rfl (by rw [ex_23]; rfl) (by decide) rfl (fun ls hl => ?_)
          refine lv_goto (tgt := 6) hx hb d_Showman_holds_142 (by decide) ?_
          exact hk6 x3 x_22 x_23 σ_21 _ _ _ hf w (lv_sub hl [3, 4, 5, 1, 0] rfl)
set_option maxHeartbeats 4000000 in
set_option maxRecDepth 20000 in
theorem t_Showman_holds_6 {r : Int32} {σ2 : St} (C : Cx g A p s m av meth c prog_7_method_5_code 7 "BellHammer$Showman" (some .boolean))  : ∀ (n : Nat) (x3 : Int32) (x4 : Int32) (x5 : Int32) (σ : St) (H : Heap) (locs : List Loc) (ls : Array Slot), f_Showman_holds_6   n x3 x4 x5 σ = some (r, σ2) → Wd g (wX g q) A s σ H locs → lv_has ls 7 [(0, .ref (q 20)), (1, .ref (q 40)), (3, .int x3), (4, .int x4), (5, .int x5)] → WK p l e s m av below meth c 2 g (wX g q) A (some (.int r)) σ2 H locs (F0 m 6 ls []) := by
  intro n
  induction n with
  | zero => intro x3 x4 x5 σ H locs ls hf; exact absurd hf (by intro z; cases z)
  | succ n ih => intro x3 x4 x5 σ H locs ls hf w hl; exact t_Showman_holds_6b C  ih hf w hl
set_option maxHeartbeats 4000000 in
set_option maxRecDepth 20000 in
theorem c_Showman_holds {l : Launch} {g : GX} {q : Nat → Nat} {x2 : Int32} {x3 : Int32}  {σ : St} {r : Int32} {σ2 : St} (hf : f_Showman_holds  x2 x3 σ = some (r, σ2)) : KK l y_Showman_holds prog_7_method_5_code 7 (some .boolean) 2 g (wX g q) σ [.ref (q 20), .ref (q 40), .int x2, .int x3] (some (.int r)) (wX g q) σ2 := by
  refine KK_of (plainFor_of_name (by decide)) (Nat.le_of_ble_eq_true rfl) (fun p e s m below meth c A ls C w hl => ?_)
  have hl : lv_has ls 7 [(0, .ref (q 20)), (1, .ref (q 40)), (2, .int x2), (3, .int x3)] := hl
  obtain ⟨hx, hb, hml, hown, hts, hK, hA, hZ, hlocks, hr, hN⟩ := id C
  unfold f_Showman_holds at hf
  refine lv_iconst (v := 0) hx hb d_Showman_holds_0 (by decide) ?_
  refine lv_istore (lv' := [(4, .int 0), (0, .ref (q 20)), (1, .ref (q 40)), (2, .int x2), (3, .int x3)]) hx hb d_Showman_holds_1 hl (by decide) rfl (fun ls hl => ?_)
  refine lv_iload_n hx hb d_Showman_holds_3 rfl (lv_at hl 3 rfl) ?_
  refine lv_istore (lv' := [(5, .int x2), (4, .int 0), (0, .ref (q 20)), (1, .ref (q 40)), (2, .int x2), (3, .int x3)]) hx hb d_Showman_holds_4 hl (by decide) rfl (fun ls hl => ?_)
  exact t_Showman_holds_6 C  FU x3 0 x2 σ _ _ _ hf w (lv_sub hl [2, 3, 5, 1, 0] rfl)
def f_Showman_rulesThatHold_42 (k7 : Int32 → Int32 → Int32 → St → Option (Int32 × St)) (x2 : Int32) (x4 : Int32) (σ : St) : Option (Int32 × St) :=
  gd (inB x4 6) <|
  lt ((sA σ 27 x4.toNatClampNeg)) fun x_2 =>
  lt ((x4 + 1)) fun x_3 =>
  k7 x2 x_2 x_3 σ
def f_Showman_rulesThatHold_7b (k7 : Int32 → Int32 → Int32 → St → Option (Int32 × St)) (x2 : Int32) (x3 : Int32) (x4 : Int32) (σ : St) : Option (Int32 × St) :=
  if (sI σ 55) ≤ x4 then
    some (x2, σ)
  else
    gd (inB x4 6) <|
    bd (f_Showman_holds x3 (sA σ 27 x4.toNatClampNeg) σ) fun r_3 σ_4 =>
    if r_3 = 0 then
      f_Showman_rulesThatHold_42 k7 x2 x4 σ_4
    else
      lt ((x2 ||| (1 <<< (x4 &&& 31)))) fun x_5 =>
      f_Showman_rulesThatHold_42 k7 x_5 x4 σ_4
def f_Showman_rulesThatHold_7 : Nat → Int32 → Int32 → Int32 → St → Option (Int32 × St)
  | 0 => fun _ _ _ _ => none
  | n + 1 => f_Showman_rulesThatHold_7b   (f_Showman_rulesThatHold_7   n)
def f_Showman_rulesThatHold (σ : St) : Option (Int32 × St) :=
  f_Showman_rulesThatHold_7 FU 0 0 0 σ
set_option maxHeartbeats 4000000 in
set_option maxRecDepth 20000 in
theorem t_Showman_rulesThatHold_42 {r : Int32} {σ2 : St} (C : Cx g A p s m av meth c prog_7_method_4_code 5 "BellHammer$Showman" (some .int)) {k7 : Int32 → Int32 → Int32 → St → Option (Int32 × St)} (hk7 : ∀ (x2 : Int32) (x3 : Int32) (x4 : Int32) (σ : St) (H : Heap) (locs : List Loc) (ls : Array Slot), k7 x2 x3 x4 σ = some (r, σ2) → Wd g (wX g q) A s σ H locs → lv_has ls 5 [(0, .ref (q 20)), (1, .ref (q 34)), (2, .int x2), (3, .int x3), (4, .int x4)] → WK p l e s m av below meth c 3 g (wX g q) A (some (.int r)) σ2 H locs (F0 m 7 ls []))  {x2 : Int32} {x4 : Int32} {σ : St} {H : Heap} {locs : List Loc} {ls : Array Slot} (hf : f_Showman_rulesThatHold_42  k7 x2 x4 σ = some (r, σ2)) (w : Wd g (wX g q) A s σ H locs) (hl : lv_has ls 5 [(0, .ref (q 20)), (1, .ref (q 34)), (2, .int x2), (4, .int x4)]) : WK p l e s m av below meth c 3 g (wX g q) A (some (.int r)) σ2 H locs (F0 m 42 ls []) := by
  obtain ⟨hx, hb, hml, hown, hts, hK, hA, hZ, hlocks, hr, hN⟩ := id C
  unfold f_Showman_rulesThatHold_42 at hf
  refine lv_aload_n hx hb d_Showman_rulesThatHold_42 rfl (lv_at hl 1 rfl) ?_
  refine xg_34_ruleEnd C w k268 d_Showman_rulesThatHold_43 ?_
  refine lv_iload hx hb d_Showman_rulesThatHold_46 (lv_at hl 3 rfl) ?_
  obtain ⟨g_1, hf⟩ := gd_e hf
  refine xl_41 C w g_1 d_Showman_rulesThatHold_48 ?_
  refine lv_topi (fun x_2 ex_2 => ?_)
  have hf := lt_e ex_2 hf
  refine lv_istore_n (lv' := [(3, .int x_2), (0, .ref (q 20)), (1, .ref (q 34)), (2, .int x2), (4, .int x4)]) hx hb d_Showman_rulesThatHold_49 rfl hl (by decide) rfl (fun ls hl => ?_)
  obtain ⟨x_3, ex_3⟩ : ∃ y : Int32, y = (x4 + 1) := ⟨_, rfl⟩
  have hf := lt_e ex_3 hf
  refine lv_iinc (v := x_3) (lv' := [(4, .int x_3), (3, .int x_2), (0, .ref (q 20)), (1, .ref (q 34)), (2, .int x2)]) hx hb d_Showman_rulesThatHold_50 hl (k := 4) rfl (by rw [ex_3]; rfl) (by decide) rfl (fun ls hl => ?_)
  refine lv_goto (tgt := 7) hx hb d_Showman_rulesThatHold_53 (by decide) ?_
  exact hk7 x2 x_2 x_3 σ _ _ _ hf w (lv_sub hl [2, 3, 4, 1, 0] rfl)
set_option maxHeartbeats 4000000 in
set_option maxRecDepth 20000 in
theorem t_Showman_rulesThatHold_7b {r : Int32} {σ2 : St} (C : Cx g A p s m av meth c prog_7_method_4_code 5 "BellHammer$Showman" (some .int)) {k7 : Int32 → Int32 → Int32 → St → Option (Int32 × St)} (hk7 : ∀ (x2 : Int32) (x3 : Int32) (x4 : Int32) (σ : St) (H : Heap) (locs : List Loc) (ls : Array Slot), k7 x2 x3 x4 σ = some (r, σ2) → Wd g (wX g q) A s σ H locs → lv_has ls 5 [(0, .ref (q 20)), (1, .ref (q 34)), (2, .int x2), (3, .int x3), (4, .int x4)] → WK p l e s m av below meth c 3 g (wX g q) A (some (.int r)) σ2 H locs (F0 m 7 ls []))  {x2 : Int32} {x3 : Int32} {x4 : Int32} {σ : St} {H : Heap} {locs : List Loc} {ls : Array Slot} (hf : f_Showman_rulesThatHold_7b  k7 x2 x3 x4 σ = some (r, σ2)) (w : Wd g (wX g q) A s σ H locs) (hl : lv_has ls 5 [(0, .ref (q 20)), (1, .ref (q 34)), (2, .int x2), (3, .int x3), (4, .int x4)]) : WK p l e s m av below meth c 3 g (wX g q) A (some (.int r)) σ2 H locs (F0 m 7 ls []) := by
  obtain ⟨hx, hb, hml, hown, hts, hK, hA, hZ, hlocks, hr, hN⟩ := id C
  unfold f_Showman_rulesThatHold_7b at hf
  refine lv_iload hx hb d_Showman_rulesThatHold_7 (lv_at hl 4 rfl) ?_
  refine lv_aload_n hx hb d_Showman_rulesThatHold_9 rfl (lv_at hl 1 rfl) ?_
  refine xg_34_rules C w k281 d_Showman_rulesThatHold_10 ?_
  refine lv_icmp_ge (tgt := 56) hx hb d_Showman_rulesThatHold_13 (by decide) (fun cd => ?_) (fun cd => ?_)
  · have hf := it_e cd hf
    refine lv_iload_n hx hb d_Showman_rulesThatHold_56 rfl (lv_at hl 2 rfl) ?_
    obtain ⟨rfl, rfl⟩ := some2_e hf
    exact k_iret C w d_Showman_rulesThatHold_57
  · have hf := if_e cd hf
    refine lv_aload_n hx hb d_Showman_rulesThatHold_16 rfl (lv_at hl 0 rfl) ?_
    refine lv_aload_n hx hb d_Showman_rulesThatHold_17 rfl (lv_at hl 1 rfl) ?_
    refine xg_34_code C w k266 d_Showman_rulesThatHold_18 ?_
    refine lv_iload_n hx hb d_Showman_rulesThatHold_21 rfl (lv_at hl 3 rfl) ?_
    refine lv_aload_n hx hb d_Showman_rulesThatHold_22 rfl (lv_at hl 1 rfl) ?_
    refine xg_34_ruleEnd C w k268 d_Showman_rulesThatHold_23 ?_
    refine lv_iload hx hb d_Showman_rulesThatHold_26 (lv_at hl 4 rfl) ?_
    obtain ⟨g_1, hf⟩ := gd_e hf
    refine xl_41 C w g_1 d_Showman_rulesThatHold_28 ?_
    obtain ⟨r_3, σ_4, h_2, hf⟩ := bd_e hf
    refine k_callV (As := [.ref (q 40), .int x3, .int (sA σ 27 x4.toNatClampNeg)]) (rest := []) C w (c_Showman_holds (q := q) h_2) cv_Showman_holds k816 (xr_20 C w) (by decide) hl.1 rfl (Nat.le_of_ble_eq_true rfl) d_Showman_rulesThatHold_29 (fun H locs w => ?_)
    show WK p l e s m av below meth c 3 g (wX g q) A (some (.int r)) σ2 H locs (F0 m 32 ls [.int r_3])
    refine lv_if_eq (tgt := 42) hx hb d_Showman_rulesThatHold_32 (by decide) (fun cd => ?_) (fun cd => ?_)
    · have hf := it_e cd hf
      exact t_Showman_rulesThatHold_42 C hk7 hf w (lv_sub hl [0, 1, 2, 4] rfl)
    · have hf := if_e cd hf
      refine lv_iload_n hx hb d_Showman_rulesThatHold_35 rfl (lv_at hl 2 rfl) ?_
      refine lv_iconst (v := 1) hx hb d_Showman_rulesThatHold_36 (by decide) ?_
      refine lv_iload hx hb d_Showman_rulesThatHold_37 (lv_at hl 4 rfl) ?_
      refine lv_ishl hx hb d_Showman_rulesThatHold_39 ?_
      refine lv_ior hx hb d_Showman_rulesThatHold_40 ?_
      refine lv_topi (fun x_5 ex_5 => ?_)
      have hf := lt_e ex_5 hf
      refine lv_istore_n (lv' := [(2, .int x_5), (0, .ref (q 20)), (1, .ref (q 34)), (3, .int x3), (4, .int x4)]) hx hb d_Showman_rulesThatHold_41 rfl hl (by decide) rfl (fun ls hl => ?_)
      exact t_Showman_rulesThatHold_42 C hk7 hf w (lv_sub hl [1, 2, 0, 4] rfl)
set_option maxHeartbeats 4000000 in
set_option maxRecDepth 20000 in
theorem t_Showman_rulesThatHold_7 {r : Int32} {σ2 : St} (C : Cx g A p s m av meth c prog_7_method_4_code 5 "BellHammer$Showman" (some .int))  : ∀ (n : Nat) (x2 : Int32) (x3 : Int32) (x4 : Int32) (σ : St) (H : Heap) (locs : List Loc) (ls : Array Slot), f_Showman_rulesThatHold_7   n x2 x3 x4 σ = some (r, σ2) → Wd g (wX g q) A s σ H locs → lv_has ls 5 [(0, .ref (q 20)), (1, .ref (q 34)), (2, .int x2), (3, .int x3), (4, .int x4)] → WK p l e s m av below meth c 3 g (wX g q) A (some (.int r)) σ2 H locs (F0 m 7 ls []) := by
  intro n
  induction n with
  | zero => intro x2 x3 x4 σ H locs ls hf; exact absurd hf (by intro z; cases z)
  | succ n ih => intro x2 x3 x4 σ H locs ls hf w hl; exact t_Showman_rulesThatHold_7b C  ih hf w hl
set_option maxHeartbeats 4000000 in
set_option maxRecDepth 20000 in
theorem c_Showman_rulesThatHold {l : Launch} {g : GX} {q : Nat → Nat}  {σ : St} {r : Int32} {σ2 : St} (hf : f_Showman_rulesThatHold   σ = some (r, σ2)) : KK l y_Showman_rulesThatHold prog_7_method_4_code 5 (some .int) 3 g (wX g q) σ [.ref (q 20), .ref (q 34)] (some (.int r)) (wX g q) σ2 := by
  refine KK_of (plainFor_of_name (by decide)) (Nat.le_of_ble_eq_true rfl) (fun p e s m below meth c A ls C w hl => ?_)
  have hl : lv_has ls 5 [(0, .ref (q 20)), (1, .ref (q 34))] := hl
  obtain ⟨hx, hb, hml, hown, hts, hK, hA, hZ, hlocks, hr, hN⟩ := id C
  unfold f_Showman_rulesThatHold at hf
  refine lv_iconst (v := 0) hx hb d_Showman_rulesThatHold_0 (by decide) ?_
  refine lv_istore_n (lv' := [(2, .int 0), (0, .ref (q 20)), (1, .ref (q 34))]) hx hb d_Showman_rulesThatHold_1 rfl hl (by decide) rfl (fun ls hl => ?_)
  refine lv_iconst (v := 0) hx hb d_Showman_rulesThatHold_2 (by decide) ?_
  refine lv_istore_n (lv' := [(3, .int 0), (2, .int 0), (0, .ref (q 20)), (1, .ref (q 34))]) hx hb d_Showman_rulesThatHold_3 rfl hl (by decide) rfl (fun ls hl => ?_)
  refine lv_iconst (v := 0) hx hb d_Showman_rulesThatHold_4 (by decide) ?_
  refine lv_istore (lv' := [(4, .int 0), (3, .int 0), (2, .int 0), (0, .ref (q 20)), (1, .ref (q 34))]) hx hb d_Showman_rulesThatHold_5 hl (by decide) rfl (fun ls hl => ?_)
  exact t_Showman_rulesThatHold_7 C  FU 0 0 0 σ _ _ _ hf w (lv_sub hl [3, 4, 2, 1, 0] rfl)
def f_BH_leans_51 (x1 : Int32) (x2 : Int32) (x3 : Int32) (x4 : Int32) (x5 : Int32) (t0 : Int32) (σ : St) : Option (Int32 × St) :=
  if t0 = 0 then
    some ((-1), σ)
  else
    bp (f_Showman_look x2 x3 x4 x5 σ) fun σ_2 =>
    bp (f_Fair_trait x1 5 σ_2) fun r_4 =>
    bp (f_Fair_trait x1 3 σ_2) fun r_6 =>
    bp (f_Showman_lookAt r_4 r_6 σ_2) fun σ_8 =>
    bd (f_Showman_rulesThatHold σ_8) fun r_10 σ_11 =>
    if (r_10 &&& (sI σ_11 19)) = 0 then
      some (0, σ_11)
    else
      some (1, σ_11)
def f_BH_leans_50 (x1 : Int32) (x2 : Int32) (x3 : Int32) (x4 : Int32) (x5 : Int32) (σ : St) : Option (Int32 × St) :=
  f_BH_leans_51 x1 x2 x3 x4 x5 0 σ
def f_BH_leans (x1 : Int32) (x2 : Int32) (x3 : Int32) (x4 : Int32) (x5 : Int32) (σ : St) : Option (Int32 × St) :=
  bp (f_BH_isTrier x1 σ) fun r_2 =>
  if r_2 = 0 then
    f_BH_leans_50 x1 x2 x3 x4 x5 σ
  else
    bp (f_BH_isWithin x2 999 σ) fun r_4 =>
    if r_4 = 0 then
      f_BH_leans_50 x1 x2 x3 x4 x5 σ
    else
      bp (f_BH_isWithin x3 3 σ) fun r_6 =>
      if r_6 = 0 then
        f_BH_leans_50 x1 x2 x3 x4 x5 σ
      else
        bp (f_BH_isWithin x4 99 σ) fun r_8 =>
        if r_8 = 0 then
          f_BH_leans_50 x1 x2 x3 x4 x5 σ
        else
          bp (f_BH_isWithin x5 99 σ) fun r_10 =>
          if r_10 = 0 then
            f_BH_leans_50 x1 x2 x3 x4 x5 σ
          else
            f_BH_leans_51 x1 x2 x3 x4 x5 1 σ
set_option maxHeartbeats 4000000 in
set_option maxRecDepth 20000 in
theorem t_BH_leans_51 {r : Int32} {σ2 : St} (C : Cx g A p s m av meth c prog_1_method_14_code 7 "BellHammer" (some .int))  {x1 : Int32} {x2 : Int32} {x3 : Int32} {x4 : Int32} {x5 : Int32} {t0 : Int32} {σ : St} {H : Heap} {locs : List Loc} {ls : Array Slot} (hf : f_BH_leans_51   x1 x2 x3 x4 x5 t0 σ = some (r, σ2)) (w : Wd g (wX g q) A s σ H locs) (hl : lv_has ls 7 [(0, .ref (q 0)), (1, .int x1), (2, .int x2), (3, .int x3), (4, .int x4), (5, .int x5)]) : WK p l e s m av below meth c 4 g (wX g q) A (some (.int r)) σ2 H locs (F0 m 51 ls [.int t0]) := by
  obtain ⟨hx, hb, hml, hown, hts, hK, hA, hZ, hlocks, hr, hN⟩ := id C
  unfold f_BH_leans_51 at hf
  refine lv_istore (lv' := [(6, .int t0), (0, .ref (q 0)), (1, .int x1), (2, .int x2), (3, .int x3), (4, .int x4), (5, .int x5)]) hx hb d_BH_leans_51 hl (by decide) rfl (fun ls hl => ?_)
  refine lv_iload hx hb d_BH_leans_53 (lv_at hl 0 rfl) ?_
  refine lv_if_ne (tgt := 60) hx hb d_BH_leans_55 (by decide) (fun cd => ?_) (fun cd => ?_)
  · have hf := if_e cd hf
    refine lv_aload_n hx hb d_BH_leans_60 rfl (lv_at hl 1 rfl) ?_
    refine xg_0_showman C w k510 d_BH_leans_61 ?_
    refine lv_iload_n hx hb d_BH_leans_64 rfl (lv_at hl 3 rfl) ?_
    refine lv_iload_n hx hb d_BH_leans_65 rfl (lv_at hl 4 rfl) ?_
    refine lv_iload hx hb d_BH_leans_66 (lv_at hl 5 rfl) ?_
    refine lv_iload hx hb d_BH_leans_68 (lv_at hl 6 rfl) ?_
    obtain ⟨σ_2, h_1, hf⟩ := bp_e hf
    refine k_callV (As := [.int x2, .int x3, .int x4, .int x5]) (rest := []) C w (c_Showman_look (q := q) h_1) cv_Showman_look k804 (xr_20 C w) (by decide) hl.1 rfl (Nat.le_of_ble_eq_true rfl) d_BH_leans_70 (fun H locs w => ?_)
    show WK p l e s m av below meth c 4 g (wX g q) A (some (.int r)) σ2 H locs (F0 m 73 ls [])
    refine lv_aload_n hx hb d_BH_leans_73 rfl (lv_at hl 1 rfl) ?_
    refine xg_0_showman C w k510 d_BH_leans_74 ?_
    refine lv_aload_n hx hb d_BH_leans_77 rfl (lv_at hl 1 rfl) ?_
    refine xg_0_fair C w k513 d_BH_leans_78 ?_
    refine lv_iload_n hx hb d_BH_leans_81 rfl (lv_at hl 2 rfl) ?_
    refine lv_iconst (v := 5) hx hb d_BH_leans_82 (by decide) ?_
    obtain ⟨r_4, h_3, hf⟩ := bp_e hf
    refine k_callV (As := [.int x1, .int 5]) (rest := [.ref (q 20)]) C w (c_Fair_trait (q := q) h_3) cv_Fair_trait k744 (xr_34 C w) (by decide) hl.1 rfl (Nat.le_of_ble_eq_true rfl) d_BH_leans_83 (fun H locs w => ?_)
    show WK p l e s m av below meth c 4 g (wX g q) A (some (.int r)) σ2 H locs (F0 m 86 ls [.int r_4, .ref (q 20)])
    refine lv_aload_n hx hb d_BH_leans_86 rfl (lv_at hl 1 rfl) ?_
    refine xg_0_fair C w k513 d_BH_leans_87 ?_
    refine lv_iload_n hx hb d_BH_leans_90 rfl (lv_at hl 2 rfl) ?_
    refine lv_iconst (v := 3) hx hb d_BH_leans_91 (by decide) ?_
    obtain ⟨r_6, h_5, hf⟩ := bp_e hf
    refine k_callV (As := [.int x1, .int 3]) (rest := [.int r_4, .ref (q 20)]) C w (c_Fair_trait (q := q) h_5) cv_Fair_trait k744 (xr_34 C w) (by decide) hl.1 rfl (Nat.le_of_ble_eq_true rfl) d_BH_leans_92 (fun H locs w => ?_)
    show WK p l e s m av below meth c 4 g (wX g q) A (some (.int r)) σ2 H locs (F0 m 95 ls [.int r_6, .int r_4, .ref (q 20)])
    obtain ⟨σ_8, h_7, hf⟩ := bp_e hf
    refine k_callV (As := [.int r_4, .int r_6]) (rest := []) C w (c_Showman_lookAt (q := q) h_7) cv_Showman_lookAt k808 (xr_20 C w) (by decide) hl.1 rfl (Nat.le_of_ble_eq_true rfl) d_BH_leans_95 (fun H locs w => ?_)
    show WK p l e s m av below meth c 4 g (wX g q) A (some (.int r)) σ2 H locs (F0 m 98 ls [])
    refine lv_aload_n hx hb d_BH_leans_98 rfl (lv_at hl 1 rfl) ?_
    refine xg_0_showman C w k510 d_BH_leans_99 ?_
    refine lv_aload_n hx hb d_BH_leans_102 rfl (lv_at hl 1 rfl) ?_
    refine xg_0_fair C w k513 d_BH_leans_103 ?_
    obtain ⟨r_10, σ_11, h_9, hf⟩ := bd_e hf
    refine k_callV (As := [.ref (q 34)]) (rest := []) C w (c_Showman_rulesThatHold (q := q) h_9) cv_Showman_rulesThatHold k812 (xr_20 C w) (by decide) hl.1 rfl (Nat.le_of_ble_eq_true rfl) d_BH_leans_106 (fun H locs w => ?_)
    show WK p l e s m av below meth c 4 g (wX g q) A (some (.int r)) σ2 H locs (F0 m 109 ls [.int r_10])
    refine lv_aload_n hx hb d_BH_leans_109 rfl (lv_at hl 1 rfl) ?_
    refine xg_0_book C w k509 d_BH_leans_110 ?_
    refine xg_14_inForce C w k342 d_BH_leans_113 ?_
    refine lv_iand hx hb d_BH_leans_116 ?_
    refine lv_if_eq (tgt := 124) hx hb d_BH_leans_117 (by decide) (fun cd => ?_) (fun cd => ?_)
    · have hf := it_e cd hf
      refine lv_iconst (v := 0) hx hb d_BH_leans_124 (by decide) ?_
      obtain ⟨rfl, rfl⟩ := some2_e hf
      exact k_iret C w d_BH_leans_125
    · have hf := if_e cd hf
      refine lv_iconst (v := 1) hx hb d_BH_leans_120 (by decide) ?_
      refine lv_goto (tgt := 125) hx hb d_BH_leans_121 (by decide) ?_
      obtain ⟨rfl, rfl⟩ := some2_e hf
      exact k_iret C w d_BH_leans_125
  · have hf := it_e cd hf
    refine lv_iconst (v := (-1)) hx hb d_BH_leans_58 (by decide) ?_
    obtain ⟨rfl, rfl⟩ := some2_e hf
    exact k_iret C w d_BH_leans_59
set_option maxHeartbeats 4000000 in
set_option maxRecDepth 20000 in
theorem t_BH_leans_50 {r : Int32} {σ2 : St} (C : Cx g A p s m av meth c prog_1_method_14_code 7 "BellHammer" (some .int))  {x1 : Int32} {x2 : Int32} {x3 : Int32} {x4 : Int32} {x5 : Int32} {σ : St} {H : Heap} {locs : List Loc} {ls : Array Slot} (hf : f_BH_leans_50   x1 x2 x3 x4 x5 σ = some (r, σ2)) (w : Wd g (wX g q) A s σ H locs) (hl : lv_has ls 7 [(0, .ref (q 0)), (1, .int x1), (2, .int x2), (3, .int x3), (4, .int x4), (5, .int x5)]) : WK p l e s m av below meth c 4 g (wX g q) A (some (.int r)) σ2 H locs (F0 m 50 ls []) := by
  obtain ⟨hx, hb, hml, hown, hts, hK, hA, hZ, hlocks, hr, hN⟩ := id C
  unfold f_BH_leans_50 at hf
  refine lv_iconst (v := 0) hx hb d_BH_leans_50 (by decide) ?_
  exact t_BH_leans_51 C  hf w (lv_sub hl [0, 1, 2, 3, 4, 5] rfl)
set_option maxHeartbeats 4000000 in
set_option maxRecDepth 20000 in
theorem c_BH_leans {l : Launch} {g : GX} {q : Nat → Nat} {x1 : Int32} {x2 : Int32} {x3 : Int32} {x4 : Int32} {x5 : Int32}  {σ : St} {r : Int32} {σ2 : St} (hf : f_BH_leans  x1 x2 x3 x4 x5 σ = some (r, σ2)) : KK l y_BH_leans prog_1_method_14_code 7 (some .int) 4 g (wX g q) σ [.ref (q 0), .int x1, .int x2, .int x3, .int x4, .int x5] (some (.int r)) (wX g q) σ2 := by
  refine KK_of (plainFor_of_name (by decide)) (Nat.le_of_ble_eq_true rfl) (fun p e s m below meth c A ls C w hl => ?_)
  have hl : lv_has ls 7 [(0, .ref (q 0)), (1, .int x1), (2, .int x2), (3, .int x3), (4, .int x4), (5, .int x5)] := hl
  obtain ⟨hx, hb, hml, hown, hts, hK, hA, hZ, hlocks, hr, hN⟩ := id C
  unfold f_BH_leans at hf
  refine lv_aload_n hx hb d_BH_leans_0 rfl (lv_at hl 0 rfl) ?_
  refine lv_iload_n hx hb d_BH_leans_1 rfl (lv_at hl 1 rfl) ?_
  obtain ⟨r_2, h_1, hf⟩ := bp_e hf
  refine k_callV (As := [.int x1]) (rest := []) C w (c_BH_isTrier (q := q) h_1) cv_BH_isTrier k736 (xr_0 C w) (by decide) hl.1 rfl (Nat.le_of_ble_eq_true rfl) d_BH_leans_2 (fun H locs w => ?_)
  show WK p l e s m _ below meth c 4 g (wX g q) A (some (.int r)) σ2 H locs (F0 m 5 ls [.int r_2])
  refine lv_if_eq (tgt := 50) hx hb d_BH_leans_5 (by decide) (fun cd => ?_) (fun cd => ?_)
  · have hf := it_e cd hf
    exact t_BH_leans_50 C  hf w (lv_sub hl [0, 1, 2, 3, 4, 5] rfl)
  · have hf := if_e cd hf
    refine lv_iload_n hx hb d_BH_leans_8 rfl (lv_at hl 2 rfl) ?_
    refine lv_sipush (v := 999) hx hb d_BH_leans_9 (by decide) ?_
    obtain ⟨r_4, h_3, hf⟩ := bp_e hf
    refine k_callS (As := [.int x2, .int 999]) (rest := []) C w (c_BH_isWithin (q := q) h_3) cv_BH_isWithin k767 (by decide) hl.1 rfl (Nat.le_of_ble_eq_true rfl) d_BH_leans_12 (fun H locs w => ?_)
    show WK p l e s m _ below meth c 4 g (wX g q) A (some (.int r)) σ2 H locs (F0 m 15 ls [.int r_4])
    refine lv_if_eq (tgt := 50) hx hb d_BH_leans_15 (by decide) (fun cd => ?_) (fun cd => ?_)
    · have hf := it_e cd hf
      exact t_BH_leans_50 C  hf w (lv_sub hl [0, 1, 2, 3, 4, 5] rfl)
    · have hf := if_e cd hf
      refine lv_iload_n hx hb d_BH_leans_18 rfl (lv_at hl 3 rfl) ?_
      refine lv_iconst (v := 3) hx hb d_BH_leans_19 (by decide) ?_
      obtain ⟨r_6, h_5, hf⟩ := bp_e hf
      refine k_callS (As := [.int x3, .int 3]) (rest := []) C w (c_BH_isWithin (q := q) h_5) cv_BH_isWithin k767 (by decide) hl.1 rfl (Nat.le_of_ble_eq_true rfl) d_BH_leans_20 (fun H locs w => ?_)
      show WK p l e s m _ below meth c 4 g (wX g q) A (some (.int r)) σ2 H locs (F0 m 23 ls [.int r_6])
      refine lv_if_eq (tgt := 50) hx hb d_BH_leans_23 (by decide) (fun cd => ?_) (fun cd => ?_)
      · have hf := it_e cd hf
        exact t_BH_leans_50 C  hf w (lv_sub hl [0, 1, 2, 3, 4, 5] rfl)
      · have hf := if_e cd hf
        refine lv_iload hx hb d_BH_leans_26 (lv_at hl 4 rfl) ?_
        refine lv_bipush (v := 99) hx hb d_BH_leans_28 (by decide) ?_
        obtain ⟨r_8, h_7, hf⟩ := bp_e hf
        refine k_callS (As := [.int x4, .int 99]) (rest := []) C w (c_BH_isWithin (q := q) h_7) cv_BH_isWithin k767 (by decide) hl.1 rfl (Nat.le_of_ble_eq_true rfl) d_BH_leans_30 (fun H locs w => ?_)
        show WK p l e s m _ below meth c 4 g (wX g q) A (some (.int r)) σ2 H locs (F0 m 33 ls [.int r_8])
        refine lv_if_eq (tgt := 50) hx hb d_BH_leans_33 (by decide) (fun cd => ?_) (fun cd => ?_)
        · have hf := it_e cd hf
          exact t_BH_leans_50 C  hf w (lv_sub hl [0, 1, 2, 3, 4, 5] rfl)
        · have hf := if_e cd hf
          refine lv_iload hx hb d_BH_leans_36 (lv_at hl 5 rfl) ?_
          refine lv_bipush (v := 99) hx hb d_BH_leans_38 (by decide) ?_
          obtain ⟨r_10, h_9, hf⟩ := bp_e hf
          refine k_callS (As := [.int x5, .int 99]) (rest := []) C w (c_BH_isWithin (q := q) h_9) cv_BH_isWithin k767 (by decide) hl.1 rfl (Nat.le_of_ble_eq_true rfl) d_BH_leans_40 (fun H locs w => ?_)
          show WK p l e s m _ below meth c 4 g (wX g q) A (some (.int r)) σ2 H locs (F0 m 43 ls [.int r_10])
          refine lv_if_eq (tgt := 50) hx hb d_BH_leans_43 (by decide) (fun cd => ?_) (fun cd => ?_)
          · have hf := it_e cd hf
            exact t_BH_leans_50 C  hf w (lv_sub hl [0, 1, 2, 3, 4, 5] rfl)
          · have hf := if_e cd hf
            refine lv_iconst (v := 1) hx hb d_BH_leans_46 (by decide) ?_
            refine lv_goto (tgt := 51) hx hb d_BH_leans_47 (by decide) ?_
            exact t_BH_leans_51 C  hf w (lv_sub hl [0, 1, 2, 3, 4, 5] rfl)
def f_Turn_load_2 (x2 : Int32) (σ : St) : Option (St) :=
  bp (f_Fair_trait x2 0 σ) fun r_2 =>
  lt (uI σ 40 r_2) fun σ_3 =>
  bp (f_Fair_trait x2 1 σ_3) fun r_5 =>
  lt (uI σ_3 41 r_5) fun σ_6 =>
  bp (f_Fair_trait x2 2 σ_6) fun r_8 =>
  lt (uI σ_6 42 r_8) fun σ_9 =>
  bp (f_Fair_trait x2 3 σ_9) fun r_11 =>
  lt (uI σ_9 43 r_11) fun σ_12 =>
  bp (f_Fair_trait x2 4 σ_12) fun r_14 =>
  lt (uI σ_12 44 r_14) fun σ_15 =>
  bp (f_Fair_trait x2 5 σ_15) fun r_17 =>
  lt (uI σ_15 45 r_17) fun σ_18 =>
  lt (uI σ_18 46 (sA σ_18 9 (0 : Int32).toNatClampNeg)) fun σ_19 =>
  lt (uI σ_19 47 (sA σ_19 9 (1 : Int32).toNatClampNeg)) fun σ_20 =>
  lt (uI σ_20 48 (sA σ_20 9 (2 : Int32).toNatClampNeg)) fun σ_21 =>
  lt (uI σ_21 49 (sA σ_21 25 (3 : Int32).toNatClampNeg)) fun σ_22 =>
  lt (uI σ_22 50 (sA σ_22 25 (5 : Int32).toNatClampNeg)) fun σ_23 =>
  lt (uI σ_23 51 (sA σ_23 25 (4 : Int32).toNatClampNeg)) fun σ_24 =>
  lt (uA σ_24 17 (va_cpy (sA σ_24 25) (sA σ_24 17) (6 : Int32).toNatClampNeg (0 : Int32).toNatClampNeg (3 : Int32).toNatClampNeg)) fun σ_25 =>
  some σ_25
set_option maxHeartbeats 4000000 in
set_option maxRecDepth 20000 in
theorem c_Turn_load_2 {l : Launch} {g : GX} {q : Nat → Nat} {x2 : Int32}  {σ : St} {σ2 : St} (hf : f_Turn_load_2  x2 σ = some σ2) : KK l y_Turn_load prog_10_method_2_code 4 none 1 g (wX g q) σ [.ref (q 26), .ref (q 34), .int x2, .ref (q 15)] none (wX g q) σ2 := by
  refine KK_of (plainFor_of_name (by decide)) (Nat.le_of_ble_eq_true rfl) (fun p e s m below meth c A ls C w hl => ?_)
  have hl : lv_has ls 4 [(0, .ref (q 26)), (1, .ref (q 34)), (2, .int x2), (3, .ref (q 15))] := hl
  obtain ⟨hx, hb, hml, hown, hts, hK, hA, hZ, hlocks, hr, hN⟩ := id C
  unfold f_Turn_load_2 at hf
  refine lv_aload_n hx hb d_Turn_load_0 rfl (lv_at hl 0 rfl) ?_
  refine lv_aload_n hx hb d_Turn_load_1 rfl (lv_at hl 1 rfl) ?_
  refine lv_iload_n hx hb d_Turn_load_2 rfl (lv_at hl 2 rfl) ?_
  refine lv_iconst (v := 0) hx hb d_Turn_load_3 (by decide) ?_
  obtain ⟨r_2, h_1, hf⟩ := bp_e hf
  refine k_callV (As := [.int x2, .int 0]) (rest := [.ref (q 26)]) C w (c_Fair_trait (q := q) h_1) cv_Fair_trait k774 (xr_34 C w) (by decide) hl.1 rfl (Nat.le_of_ble_eq_true rfl) d_Turn_load_4 (fun H locs w => ?_)
  show WK p l e s m _ below meth c 1 g (wX g q) A none σ2 H locs (F0 m 7 ls [.int r_2, .ref (q 26)])
  refine xp_26_force C w k404 d_Turn_load_7 (fun σ_3 H locs eσ_3 w => ?_)
  have hf := lt_e eσ_3 hf
  refine lv_aload_n hx hb d_Turn_load_10 rfl (lv_at hl 0 rfl) ?_
  refine lv_aload_n hx hb d_Turn_load_11 rfl (lv_at hl 1 rfl) ?_
  refine lv_iload_n hx hb d_Turn_load_12 rfl (lv_at hl 2 rfl) ?_
  refine lv_iconst (v := 1) hx hb d_Turn_load_13 (by decide) ?_
  obtain ⟨r_5, h_4, hf⟩ := bp_e hf
  refine k_callV (As := [.int x2, .int 1]) (rest := [.ref (q 26)]) C w (c_Fair_trait (q := q) h_4) cv_Fair_trait k774 (xr_34 C w) (by decide) hl.1 rfl (Nat.le_of_ble_eq_true rfl) d_Turn_load_14 (fun H locs w => ?_)
  show WK p l e s m _ below meth c 1 g (wX g q) A none σ2 H locs (F0 m 17 ls [.int r_5, .ref (q 26)])
  refine xp_26_aim C w k406 d_Turn_load_17 (fun σ_6 H locs eσ_6 w => ?_)
  have hf := lt_e eσ_6 hf
  refine lv_aload_n hx hb d_Turn_load_20 rfl (lv_at hl 0 rfl) ?_
  refine lv_aload_n hx hb d_Turn_load_21 rfl (lv_at hl 1 rfl) ?_
  refine lv_iload_n hx hb d_Turn_load_22 rfl (lv_at hl 2 rfl) ?_
  refine lv_iconst (v := 2) hx hb d_Turn_load_23 (by decide) ?_
  obtain ⟨r_8, h_7, hf⟩ := bp_e hf
  refine k_callV (As := [.int x2, .int 2]) (rest := [.ref (q 26)]) C w (c_Fair_trait (q := q) h_7) cv_Fair_trait k774 (xr_34 C w) (by decide) hl.1 rfl (Nat.le_of_ble_eq_true rfl) d_Turn_load_24 (fun H locs w => ?_)
  show WK p l e s m _ below meth c 1 g (wX g q) A none σ2 H locs (F0 m 27 ls [.int r_8, .ref (q 26)])
  refine xp_26_tires C w k409 d_Turn_load_27 (fun σ_9 H locs eσ_9 w => ?_)
  have hf := lt_e eσ_9 hf
  refine lv_aload_n hx hb d_Turn_load_30 rfl (lv_at hl 0 rfl) ?_
  refine lv_aload_n hx hb d_Turn_load_31 rfl (lv_at hl 1 rfl) ?_
  refine lv_iload_n hx hb d_Turn_load_32 rfl (lv_at hl 2 rfl) ?_
  refine lv_iconst (v := 3) hx hb d_Turn_load_33 (by decide) ?_
  obtain ⟨r_11, h_10, hf⟩ := bp_e hf
  refine k_callV (As := [.int x2, .int 3]) (rest := [.ref (q 26)]) C w (c_Fair_trait (q := q) h_10) cv_Fair_trait k774 (xr_34 C w) (by decide) hl.1 rfl (Nat.le_of_ble_eq_true rfl) d_Turn_load_34 (fun H locs w => ?_)
  show WK p l e s m _ below meth c 1 g (wX g q) A none σ2 H locs (F0 m 37 ls [.int r_11, .ref (q 26)])
  refine xp_26_coins C w k410 d_Turn_load_37 (fun σ_12 H locs eσ_12 w => ?_)
  have hf := lt_e eσ_12 hf
  refine lv_aload_n hx hb d_Turn_load_40 rfl (lv_at hl 0 rfl) ?_
  refine lv_aload_n hx hb d_Turn_load_41 rfl (lv_at hl 1 rfl) ?_
  refine lv_iload_n hx hb d_Turn_load_42 rfl (lv_at hl 2 rfl) ?_
  refine lv_iconst (v := 4) hx hb d_Turn_load_43 (by decide) ?_
  obtain ⟨r_14, h_13, hf⟩ := bp_e hf
  refine k_callV (As := [.int x2, .int 4]) (rest := [.ref (q 26)]) C w (c_Fair_trait (q := q) h_13) cv_Fair_trait k774 (xr_34 C w) (by decide) hl.1 rfl (Nat.le_of_ble_eq_true rfl) d_Turn_load_44 (fun H locs w => ?_)
  show WK p l e s m _ below meth c 1 g (wX g q) A none σ2 H locs (F0 m 47 ls [.int r_14, .ref (q 26)])
  refine xp_26_stays C w k411 d_Turn_load_47 (fun σ_15 H locs eσ_15 w => ?_)
  have hf := lt_e eσ_15 hf
  refine lv_aload_n hx hb d_Turn_load_50 rfl (lv_at hl 0 rfl) ?_
  refine lv_aload_n hx hb d_Turn_load_51 rfl (lv_at hl 1 rfl) ?_
  refine lv_iload_n hx hb d_Turn_load_52 rfl (lv_at hl 2 rfl) ?_
  refine lv_iconst (v := 5) hx hb d_Turn_load_53 (by decide) ?_
  obtain ⟨r_17, h_16, hf⟩ := bp_e hf
  refine k_callV (As := [.int x2, .int 5]) (rest := [.ref (q 26)]) C w (c_Fair_trait (q := q) h_16) cv_Fair_trait k774 (xr_34 C w) (by decide) hl.1 rfl (Nat.le_of_ble_eq_true rfl) d_Turn_load_54 (fun H locs w => ?_)
  show WK p l e s m _ below meth c 1 g (wX g q) A none σ2 H locs (F0 m 57 ls [.int r_17, .ref (q 26)])
  refine xp_26_lady C w k412 d_Turn_load_57 (fun σ_18 H locs eσ_18 w => ?_)
  have hf := lt_e eσ_18 hf
  refine lv_aload_n hx hb d_Turn_load_60 rfl (lv_at hl 0 rfl) ?_
  refine lv_aload_n hx hb d_Turn_load_61 rfl (lv_at hl 3 rfl) ?_
  refine lv_iconst (v := 0) hx hb d_Turn_load_62 (by decide) ?_
  refine xl_15 C w (by decide) d_Turn_load_63 ?_
  refine xp_26_bell C w k415 d_Turn_load_64 (fun σ_19 H locs eσ_19 w => ?_)
  have hf := lt_e eσ_19 hf
  refine lv_aload_n hx hb d_Turn_load_67 rfl (lv_at hl 0 rfl) ?_
  refine lv_aload_n hx hb d_Turn_load_68 rfl (lv_at hl 3 rfl) ?_
  refine lv_iconst (v := 1) hx hb d_Turn_load_69 (by decide) ?_
  refine xl_15 C w (by decide) d_Turn_load_70 ?_
  refine xp_26_slack C w k417 d_Turn_load_71 (fun σ_20 H locs eσ_20 w => ?_)
  have hf := lt_e eσ_20 hf
  refine lv_aload_n hx hb d_Turn_load_74 rfl (lv_at hl 0 rfl) ?_
  refine lv_aload_n hx hb d_Turn_load_75 rfl (lv_at hl 3 rfl) ?_
  refine lv_iconst (v := 2) hx hb d_Turn_load_76 (by decide) ?_
  refine xl_15 C w (by decide) d_Turn_load_77 ?_
  refine xp_26_price C w k419 d_Turn_load_78 (fun σ_21 H locs eσ_21 w => ?_)
  have hf := lt_e eσ_21 hf
  refine lv_aload_n hx hb d_Turn_load_81 rfl (lv_at hl 0 rfl) ?_
  refine lv_aload_n hx hb d_Turn_load_82 rfl (lv_at hl 1 rfl) ?_
  refine xg_34_settings C w k262 d_Turn_load_83 ?_
  refine lv_iconst (v := 3) hx hb d_Turn_load_86 (by decide) ?_
  refine xl_39 C w (by decide) d_Turn_load_87 ?_
  refine xp_26_tries C w k420 d_Turn_load_88 (fun σ_22 H locs eσ_22 w => ?_)
  have hf := lt_e eσ_22 hf
  refine lv_aload_n hx hb d_Turn_load_91 rfl (lv_at hl 0 rfl) ?_
  refine lv_aload_n hx hb d_Turn_load_92 rfl (lv_at hl 1 rfl) ?_
  refine xg_34_settings C w k262 d_Turn_load_93 ?_
  refine lv_iconst (v := 5) hx hb d_Turn_load_96 (by decide) ?_
  refine xl_39 C w (by decide) d_Turn_load_97 ?_
  refine xp_26_near C w k421 d_Turn_load_98 (fun σ_23 H locs eσ_23 w => ?_)
  have hf := lt_e eσ_23 hf
  refine lv_aload_n hx hb d_Turn_load_101 rfl (lv_at hl 0 rfl) ?_
  refine lv_aload_n hx hb d_Turn_load_102 rfl (lv_at hl 1 rfl) ?_
  refine xg_34_settings C w k262 d_Turn_load_103 ?_
  refine lv_iconst (v := 4) hx hb d_Turn_load_106 (by decide) ?_
  refine xl_39 C w (by decide) d_Turn_load_107 ?_
  refine xp_26_crowd C w k422 d_Turn_load_108 (fun σ_24 H locs eσ_24 w => ?_)
  have hf := lt_e eσ_24 hf
  refine lv_aload_n hx hb d_Turn_load_111 rfl (lv_at hl 1 rfl) ?_
  refine xg_34_settings C w k262 d_Turn_load_112 ?_
  refine lv_bipush (v := 6) hx hb d_Turn_load_115 (by decide) ?_
  refine lv_aload_n hx hb d_Turn_load_117 rfl (lv_at hl 0 rfl) ?_
  refine xg_26_comes C w k424 d_Turn_load_118 ?_
  refine lv_iconst (v := 0) hx hb d_Turn_load_121 (by decide) ?_
  refine lv_aload_n hx hb d_Turn_load_122 rfl (lv_at hl 0 rfl) ?_
  refine xg_26_comes C w k424 d_Turn_load_123 ?_
  refine xn_27 C w d_Turn_load_126 ?_
  refine xc_39_27 C w hl.1 (by omega) (Nat.le_of_ble_eq_true rfl) (by decide) (by decide) (by decide) (by decide) (by decide) k775 d_Turn_load_127 (fun σ_25 H locs eσ_25 w => ?_)
  have hf := lt_e eσ_25 hf
  cases some_e hf
  exact k_vret C w d_Turn_load_130
def f_Turn_coinsBehind (x1 : Int32) (σ : St) : Option (Int32) :=
  some ((sI σ 43) - (x1 * (sI σ 48)))
set_option maxHeartbeats 4000000 in
set_option maxRecDepth 20000 in
theorem c_Turn_coinsBehind {l : Launch} {g : GX} {q : Nat → Nat} {x1 : Int32}  {σ : St} {r : Int32} (hf : f_Turn_coinsBehind  x1 σ = some r) : KK l y_Turn_coinsBehind prog_10_method_3_code 2 (some .int) 0 g (wX g q) σ [.ref (q 26), .int x1] (some (.int r)) (wX g q) σ := by
  refine KK_of (plainFor_of_name (by decide)) (Nat.le_of_ble_eq_true rfl) (fun p e s m below meth c A ls C w hl => ?_)
  have hl : lv_has ls 2 [(0, .ref (q 26)), (1, .int x1)] := hl
  obtain ⟨hx, hb, hml, hown, hts, hK, hA, hZ, hlocks, hr, hN⟩ := id C
  unfold f_Turn_coinsBehind at hf
  refine lv_aload_n hx hb d_Turn_coinsBehind_0 rfl (lv_at hl 0 rfl) ?_
  refine xg_26_coins C w k410 d_Turn_coinsBehind_1 ?_
  refine lv_iload_n hx hb d_Turn_coinsBehind_4 rfl (lv_at hl 1 rfl) ?_
  refine lv_aload_n hx hb d_Turn_coinsBehind_5 rfl (lv_at hl 0 rfl) ?_
  refine xg_26_price C w k419 d_Turn_coinsBehind_6 ?_
  refine lv_imul hx hb d_Turn_coinsBehind_9 ?_
  refine lv_isub hx hb d_Turn_coinsBehind_10 ?_
  cases some_e hf
  exact k_iret C w d_Turn_coinsBehind_11
def f_Turn_isRing (x1 : Int32) (σ : St) : Option (Int32) :=
  if x1 < (sI σ 46) then
    some 0
  else
    some 1
set_option maxHeartbeats 4000000 in
set_option maxRecDepth 20000 in
theorem c_Turn_isRing {l : Launch} {g : GX} {q : Nat → Nat} {x1 : Int32}  {σ : St} {r : Int32} (hf : f_Turn_isRing  x1 σ = some r) : KK l y_Turn_isRing prog_10_method_6_code 2 (some .boolean) 0 g (wX g q) σ [.ref (q 26), .int x1] (some (.int r)) (wX g q) σ := by
  refine KK_of (plainFor_of_name (by decide)) (Nat.le_of_ble_eq_true rfl) (fun p e s m below meth c A ls C w hl => ?_)
  have hl : lv_has ls 2 [(0, .ref (q 26)), (1, .int x1)] := hl
  obtain ⟨hx, hb, hml, hown, hts, hK, hA, hZ, hlocks, hr, hN⟩ := id C
  unfold f_Turn_isRing at hf
  refine lv_iload_n hx hb d_Turn_isRing_0 rfl (lv_at hl 1 rfl) ?_
  refine lv_aload_n hx hb d_Turn_isRing_1 rfl (lv_at hl 0 rfl) ?_
  refine xg_26_bell C w k415 d_Turn_isRing_2 ?_
  refine lv_icmp_lt (tgt := 12) hx hb d_Turn_isRing_5 (by decide) (fun cd => ?_) (fun cd => ?_)
  · have hf := it_e cd hf
    refine lv_iconst (v := 0) hx hb d_Turn_isRing_12 (by decide) ?_
    cases some_e hf
    exact k_zret C w (by decide) d_Turn_isRing_13
  · have hf := if_e cd hf
    refine lv_iconst (v := 1) hx hb d_Turn_isRing_8 (by decide) ?_
    refine lv_goto (tgt := 13) hx hb d_Turn_isRing_9 (by decide) ?_
    cases some_e hf
    exact k_zret C w (by decide) d_Turn_isRing_13
def f_Turn_goesOn (x1 : Int32) (x2 : Int32) (σ : St) : Option (Int32) :=
  if (sI σ 49) ≤ x1 then
    some 0
  else
    bp (f_Turn_coinsBehind x1 σ) fun r_2 =>
    if (sI σ 48) ≤ r_2 then
      if x1 = 0 then
        some 1
      else
        bp (f_Turn_isRing x2 σ) fun r_4 =>
        if r_4 = 0 then
          if (sI σ 44) < ((sI σ 46) - x2) then
            some 0
          else
            some 1
        else
          some 0
    else
      some 0
set_option maxHeartbeats 4000000 in
set_option maxRecDepth 20000 in
theorem c_Turn_goesOn {l : Launch} {g : GX} {q : Nat → Nat} {x1 : Int32} {x2 : Int32}  {σ : St} {r : Int32} (hf : f_Turn_goesOn  x1 x2 σ = some r) : KK l y_Turn_goesOn prog_10_method_4_code 3 (some .boolean) 1 g (wX g q) σ [.ref (q 26), .int x1, .int x2] (some (.int r)) (wX g q) σ := by
  refine KK_of (plainFor_of_name (by decide)) (Nat.le_of_ble_eq_true rfl) (fun p e s m below meth c A ls C w hl => ?_)
  have hl : lv_has ls 3 [(0, .ref (q 26)), (1, .int x1), (2, .int x2)] := hl
  obtain ⟨hx, hb, hml, hown, hts, hK, hA, hZ, hlocks, hr, hN⟩ := id C
  unfold f_Turn_goesOn at hf
  refine lv_iload_n hx hb d_Turn_goesOn_0 rfl (lv_at hl 1 rfl) ?_
  refine lv_aload_n hx hb d_Turn_goesOn_1 rfl (lv_at hl 0 rfl) ?_
  refine xg_26_tries C w k420 d_Turn_goesOn_2 ?_
  refine lv_icmp_ge (tgt := 20) hx hb d_Turn_goesOn_5 (by decide) (fun cd => ?_) (fun cd => ?_)
  · have hf := it_e cd hf
    refine lv_iconst (v := 0) hx hb d_Turn_goesOn_20 (by decide) ?_
    cases some_e hf
    exact k_zret C w (by decide) d_Turn_goesOn_21
  · have hf := if_e cd hf
    refine lv_aload_n hx hb d_Turn_goesOn_8 rfl (lv_at hl 0 rfl) ?_
    refine lv_iload_n hx hb d_Turn_goesOn_9 rfl (lv_at hl 1 rfl) ?_
    obtain ⟨r_2, h_1, hf⟩ := bp_e hf
    refine k_callV (As := [.int x1]) (rest := []) C w (c_Turn_coinsBehind (q := q) h_1) cv_Turn_coinsBehind k854 (xr_26 C w) (by decide) hl.1 rfl (Nat.le_of_ble_eq_true rfl) d_Turn_goesOn_10 (fun H locs w => ?_)
    show WK p l e s m _ below meth c 1 g (wX g q) A (some (.int r)) σ H locs (F0 m 13 ls [.int r_2])
    refine lv_aload_n hx hb d_Turn_goesOn_13 rfl (lv_at hl 0 rfl) ?_
    refine xg_26_price C w k419 d_Turn_goesOn_14 ?_
    refine lv_icmp_ge (tgt := 22) hx hb d_Turn_goesOn_17 (by decide) (fun cd => ?_) (fun cd => ?_)
    · have hf := it_e cd hf
      refine lv_iload_n hx hb d_Turn_goesOn_22 rfl (lv_at hl 1 rfl) ?_
      refine lv_if_eq (tgt := 47) hx hb d_Turn_goesOn_23 (by decide) (fun cd => ?_) (fun cd => ?_)
      · have hf := it_e cd hf
        refine lv_iconst (v := 1) hx hb d_Turn_goesOn_47 (by decide) ?_
        refine lv_goto (tgt := 52) hx hb d_Turn_goesOn_48 (by decide) ?_
        cases some_e hf
        exact k_zret C w (by decide) d_Turn_goesOn_52
      · have hf := if_e cd hf
        refine lv_aload_n hx hb d_Turn_goesOn_26 rfl (lv_at hl 0 rfl) ?_
        refine lv_iload_n hx hb d_Turn_goesOn_27 rfl (lv_at hl 2 rfl) ?_
        obtain ⟨r_4, h_3, hf⟩ := bp_e hf
        refine k_callV (As := [.int x2]) (rest := []) C w (c_Turn_isRing (q := q) h_3) cv_Turn_isRing k858 (xr_26 C w) (by decide) hl.1 rfl (Nat.le_of_ble_eq_true rfl) d_Turn_goesOn_28 (fun H locs w => ?_)
        show WK p l e s m _ below meth c 1 g (wX g q) A (some (.int r)) σ H locs (F0 m 31 ls [.int r_4])
        refine lv_if_ne (tgt := 51) hx hb d_Turn_goesOn_31 (by decide) (fun cd => ?_) (fun cd => ?_)
        · have hf := if_e cd hf
          refine lv_iconst (v := 0) hx hb d_Turn_goesOn_51 (by decide) ?_
          cases some_e hf
          exact k_zret C w (by decide) d_Turn_goesOn_52
        · have hf := it_e cd hf
          refine lv_aload_n hx hb d_Turn_goesOn_34 rfl (lv_at hl 0 rfl) ?_
          refine xg_26_bell C w k415 d_Turn_goesOn_35 ?_
          refine lv_iload_n hx hb d_Turn_goesOn_38 rfl (lv_at hl 2 rfl) ?_
          refine lv_isub hx hb d_Turn_goesOn_39 ?_
          refine lv_aload_n hx hb d_Turn_goesOn_40 rfl (lv_at hl 0 rfl) ?_
          refine xg_26_stays C w k411 d_Turn_goesOn_41 ?_
          refine lv_icmp_gt (tgt := 51) hx hb d_Turn_goesOn_44 (by decide) (fun cd => ?_) (fun cd => ?_)
          · have hf := it_e cd hf
            refine lv_iconst (v := 0) hx hb d_Turn_goesOn_51 (by decide) ?_
            cases some_e hf
            exact k_zret C w (by decide) d_Turn_goesOn_52
          · have hf := if_e cd hf
            refine lv_iconst (v := 1) hx hb d_Turn_goesOn_47 (by decide) ?_
            refine lv_goto (tgt := 52) hx hb d_Turn_goesOn_48 (by decide) ?_
            cases some_e hf
            exact k_zret C w (by decide) d_Turn_goesOn_52
    · have hf := if_e cd hf
      refine lv_iconst (v := 0) hx hb d_Turn_goesOn_20 (by decide) ?_
      cases some_e hf
      exact k_zret C w (by decide) d_Turn_goesOn_21
def f_Showman_look_2 (x1 : Int32) (x2 : Int32) (x3 : Int32) (x4 : Int32) (σ : St) : Option (St) :=
  lt (uA σ 18 (upd (sA σ 18) (0 : Int32).toNatClampNeg x1)) fun σ_1 =>
  lt (uA σ_1 18 (upd (sA σ_1 18) (1 : Int32).toNatClampNeg x2)) fun σ_2 =>
  lt (uA σ_2 18 (upd (sA σ_2 18) (2 : Int32).toNatClampNeg x3)) fun σ_3 =>
  lt (uA σ_3 18 (upd (sA σ_3 18) (4 : Int32).toNatClampNeg x4)) fun σ_4 =>
  some σ_4
set_option maxHeartbeats 4000000 in
set_option maxRecDepth 20000 in
theorem c_Showman_look_2 {l : Launch} {g : GX} {q : Nat → Nat} {x1 : Int32} {x2 : Int32} {x3 : Int32} {x4 : Int32}  {σ : St} {σ2 : St} (hf : f_Showman_look_2  x1 x2 x3 x4 σ = some σ2) : KK l y_Showman_look prog_7_method_2_code 5 none 0 g (wX g q) σ [.ref (q 28), .int x1, .int x2, .int x3, .int x4] none (wX g q) σ2 := by
  refine KK_of (plainFor_of_name (by decide)) (Nat.le_of_ble_eq_true rfl) (fun p e s m below meth c A ls C w hl => ?_)
  have hl : lv_has ls 5 [(0, .ref (q 28)), (1, .int x1), (2, .int x2), (3, .int x3), (4, .int x4)] := hl
  obtain ⟨hx, hb, hml, hown, hts, hK, hA, hZ, hlocks, hr, hN⟩ := id C
  unfold f_Showman_look_2 at hf
  refine lv_aload_n hx hb d_Showman_look_0 rfl (lv_at hl 0 rfl) ?_
  refine xg_28_facts C w k391 d_Showman_look_1 ?_
  refine lv_iconst (v := 0) hx hb d_Showman_look_4 (by decide) ?_
  refine lv_iload_n hx hb d_Showman_look_5 rfl (lv_at hl 1 rfl) ?_
  refine xs_29 C w (by decide) d_Showman_look_6 (fun σ_1 H locs eσ_1 w => ?_)
  have hf := lt_e eσ_1 hf
  refine lv_aload_n hx hb d_Showman_look_7 rfl (lv_at hl 0 rfl) ?_
  refine xg_28_facts C w k391 d_Showman_look_8 ?_
  refine lv_iconst (v := 1) hx hb d_Showman_look_11 (by decide) ?_
  refine lv_iload_n hx hb d_Showman_look_12 rfl (lv_at hl 2 rfl) ?_
  refine xs_29 C w (by decide) d_Showman_look_13 (fun σ_2 H locs eσ_2 w => ?_)
  have hf := lt_e eσ_2 hf
  refine lv_aload_n hx hb d_Showman_look_14 rfl (lv_at hl 0 rfl) ?_
  refine xg_28_facts C w k391 d_Showman_look_15 ?_
  refine lv_iconst (v := 2) hx hb d_Showman_look_18 (by decide) ?_
  refine lv_iload_n hx hb d_Showman_look_19 rfl (lv_at hl 3 rfl) ?_
  refine xs_29 C w (by decide) d_Showman_look_20 (fun σ_3 H locs eσ_3 w => ?_)
  have hf := lt_e eσ_3 hf
  refine lv_aload_n hx hb d_Showman_look_21 rfl (lv_at hl 0 rfl) ?_
  refine xg_28_facts C w k391 d_Showman_look_22 ?_
  refine lv_iconst (v := 4) hx hb d_Showman_look_25 (by decide) ?_
  refine lv_iload hx hb d_Showman_look_26 (lv_at hl 4 rfl) ?_
  refine xs_29 C w (by decide) d_Showman_look_28 (fun σ_4 H locs eσ_4 w => ?_)
  have hf := lt_e eσ_4 hf
  cases some_e hf
  exact k_vret C w d_Showman_look_29
def f_Showman_lookAt_2 (x1 : Int32) (x2 : Int32) (σ : St) : Option (St) :=
  lt (uA σ 18 (upd (sA σ 18) (3 : Int32).toNatClampNeg x1)) fun σ_1 =>
  lt (uA σ_1 18 (upd (sA σ_1 18) (5 : Int32).toNatClampNeg x2)) fun σ_2 =>
  some σ_2
set_option maxHeartbeats 4000000 in
set_option maxRecDepth 20000 in
theorem c_Showman_lookAt_2 {l : Launch} {g : GX} {q : Nat → Nat} {x1 : Int32} {x2 : Int32}  {σ : St} {σ2 : St} (hf : f_Showman_lookAt_2  x1 x2 σ = some σ2) : KK l y_Showman_lookAt prog_7_method_3_code 3 none 0 g (wX g q) σ [.ref (q 28), .int x1, .int x2] none (wX g q) σ2 := by
  refine KK_of (plainFor_of_name (by decide)) (Nat.le_of_ble_eq_true rfl) (fun p e s m below meth c A ls C w hl => ?_)
  have hl : lv_has ls 3 [(0, .ref (q 28)), (1, .int x1), (2, .int x2)] := hl
  obtain ⟨hx, hb, hml, hown, hts, hK, hA, hZ, hlocks, hr, hN⟩ := id C
  unfold f_Showman_lookAt_2 at hf
  refine lv_aload_n hx hb d_Showman_lookAt_0 rfl (lv_at hl 0 rfl) ?_
  refine xg_28_facts C w k391 d_Showman_lookAt_1 ?_
  refine lv_iconst (v := 3) hx hb d_Showman_lookAt_4 (by decide) ?_
  refine lv_iload_n hx hb d_Showman_lookAt_5 rfl (lv_at hl 1 rfl) ?_
  refine xs_29 C w (by decide) d_Showman_lookAt_6 (fun σ_1 H locs eσ_1 w => ?_)
  have hf := lt_e eσ_1 hf
  refine lv_aload_n hx hb d_Showman_lookAt_7 rfl (lv_at hl 0 rfl) ?_
  refine xg_28_facts C w k391 d_Showman_lookAt_8 ?_
  refine lv_iconst (v := 5) hx hb d_Showman_lookAt_11 (by decide) ?_
  refine lv_iload_n hx hb d_Showman_lookAt_12 rfl (lv_at hl 2 rfl) ?_
  refine xs_29 C w (by decide) d_Showman_lookAt_13 (fun σ_2 H locs eσ_2 w => ?_)
  have hf := lt_e eσ_2 hf
  cases some_e hf
  exact k_vret C w d_Showman_lookAt_14
def f_Tree_shareOf (x1 : Int64) (σ : St) : Option (Int64) :=
  lt (((sI σ 41) + 1)) fun x_1 =>
  if 0 < x_1 then
    gd (nzJ (x_1).toInt64) <|
    some (x1 / (x_1).toInt64)
  else
    some 0
set_option maxHeartbeats 4000000 in
set_option maxRecDepth 20000 in
theorem c_Tree_shareOf {l : Launch} {g : GX} {q : Nat → Nat} {x1 : Int64}  {σ : St} {r : Int64} (hf : f_Tree_shareOf  x1 σ = some r) : KK l y_Tree_shareOf prog_9_method_7_code 4 (some .long) 0 g (wX g q) σ [.ref (q 25), .long x1] (some (.long r)) (wX g q) σ := by
  refine KK_of (plainFor_of_name (by decide)) (Nat.le_of_ble_eq_true rfl) (fun p e s m below meth c A ls C w hl => ?_)
  have hl : lv_has ls 4 [(0, .ref (q 25)), (1, .long x1)] := hl
  obtain ⟨hx, hb, hml, hown, hts, hK, hA, hZ, hlocks, hr, hN⟩ := id C
  unfold f_Tree_shareOf at hf
  refine lv_aload_n hx hb d_Tree_shareOf_0 rfl (lv_at hl 0 rfl) ?_
  refine xg_25_turn C w k462 d_Tree_shareOf_1 ?_
  refine xg_26_aim C w k407 d_Tree_shareOf_4 ?_
  refine lv_iconst (v := 1) hx hb d_Tree_shareOf_7 (by decide) ?_
  refine lv_iadd hx hb d_Tree_shareOf_8 ?_
  refine lv_topi (fun x_1 ex_1 => ?_)
  have hf := lt_e ex_1 hf
  refine lv_istore_n (lv' := [(3, .int x_1), (0, .ref (q 25)), (1, .long x1)]) hx hb d_Tree_shareOf_9 rfl hl (by decide) rfl (fun ls hl => ?_)
  refine lv_iload_n hx hb d_Tree_shareOf_10 rfl (lv_at hl 0 rfl) ?_
  refine lv_if_gt (tgt := 18) hx hb d_Tree_shareOf_11 (by decide) (fun cd => ?_) (fun cd => ?_)
  · have hf := it_e cd hf
    refine lv_lload_n hx hb d_Tree_shareOf_18 rfl (lv_at hl 2 rfl) ?_
    refine lv_iload_n hx hb d_Tree_shareOf_19 rfl (lv_at hl 0 rfl) ?_
    refine lv_i2l hx hb d_Tree_shareOf_20 rfl ?_
    obtain ⟨g_2, hf⟩ := gd_e hf
    refine lv_ldiv hx hb d_Tree_shareOf_21 (nzJ_e g_2) ?_
    cases some_e hf
    exact k_lret C w d_Tree_shareOf_22
  · have hf := if_e cd hf
    refine lv_lconst (v := 0) hx hb d_Tree_shareOf_14 (by decide) ?_
    refine lv_goto (tgt := 22) hx hb d_Tree_shareOf_15 (by decide) ?_
    cases some_e hf
    exact k_lret C w d_Tree_shareOf_22
def f_Turn_height_2_36 (t0 : Int32) (t1 : Int32) (t2 : Int32) (t3 : Int32) (σ : St) : Option (Int32) :=
  bp (f_BH_rise t2 t1 t0 σ) fun r_2 =>
  some (iMin t3 r_2)
def f_Turn_height_2 (x1 : Int32) (x2 : Int32) (x3 : Int32) (σ : St) : Option (Int32) :=
  lt ((iMax 1 ((sI σ 40) - (x1 * (sI σ 42))))) fun x_1 =>
  if x3 = 0 then
    f_Turn_height_2_36 0 x2 x_1 (sI σ 46) σ
  else
    f_Turn_height_2_36 (sI σ 47) x2 x_1 (sI σ 46) σ
set_option maxHeartbeats 4000000 in
set_option maxRecDepth 20000 in
theorem t_Turn_height_2_36 {r : Int32} {σ : St} (C : Cx g A p s m av meth c prog_10_method_5_code 5 "BellHammer$Turn" (some .int))  {t0 : Int32} {t1 : Int32} {t2 : Int32} {t3 : Int32} {H : Heap} {locs : List Loc} {ls : Array Slot} (hf : f_Turn_height_2_36   t0 t1 t2 t3 σ = some r) (w : Wd g (wX g q) A s σ H locs) (hl : lv_has ls 5 []) : WK p l e s m av below meth c 1 g (wX g q) A (some (.int r)) σ H locs (F0 m 36 ls [.int t0, .int t1, .int t2, .int t3]) := by
  obtain ⟨hx, hb, hml, hown, hts, hK, hA, hZ, hlocks, hr, hN⟩ := id C
  unfold f_Turn_height_2_36 at hf
  obtain ⟨r_2, h_1, hf⟩ := bp_e hf
  refine k_callSN (As := [.int t2, .int t1, .int t0]) (rest := [.int t3]) C w (c_BH_rise (q := q) h_1) cv_BH_rise (List.mem_of_getElem? (l := nestM) (i := 7) rfl) (by decide) hl.1 rfl (Nat.le_of_ble_eq_true rfl) d_Turn_height_36 (fun H locs w => ?_)
  show WK p l e s m av below meth c 1 g (wX g q) A (some (.int r)) σ H locs (F0 m 39 ls [.int r_2, .int t3])
  refine r_min C hl.1 (by omega) (Nat.le_of_ble_eq_true rfl) k786 d_Turn_height_39 ?_
  cases some_e hf
  exact k_iret C w d_Turn_height_42
set_option maxHeartbeats 4000000 in
set_option maxRecDepth 20000 in
theorem c_Turn_height_2 {l : Launch} {g : GX} {q : Nat → Nat} {x1 : Int32} {x2 : Int32} {x3 : Int32}  {σ : St} {r : Int32} (hf : f_Turn_height_2  x1 x2 x3 σ = some r) : KK l y_Turn_height prog_10_method_5_code 5 (some .int) 1 g (wX g q) σ [.ref (q 26), .int x1, .int x2, .int x3] (some (.int r)) (wX g q) σ := by
  refine KK_of (plainFor_of_name (by decide)) (Nat.le_of_ble_eq_true rfl) (fun p e s m below meth c A ls C w hl => ?_)
  have hl : lv_has ls 5 [(0, .ref (q 26)), (1, .int x1), (2, .int x2), (3, .int x3)] := hl
  obtain ⟨hx, hb, hml, hown, hts, hK, hA, hZ, hlocks, hr, hN⟩ := id C
  unfold f_Turn_height_2 at hf
  refine lv_iconst (v := 1) hx hb d_Turn_height_0 (by decide) ?_
  refine lv_aload_n hx hb d_Turn_height_1 rfl (lv_at hl 0 rfl) ?_
  refine xg_26_force C w k404 d_Turn_height_2 ?_
  refine lv_iload_n hx hb d_Turn_height_5 rfl (lv_at hl 1 rfl) ?_
  refine lv_aload_n hx hb d_Turn_height_6 rfl (lv_at hl 0 rfl) ?_
  refine xg_26_tires C w k409 d_Turn_height_7 ?_
  refine lv_imul hx hb d_Turn_height_10 ?_
  refine lv_isub hx hb d_Turn_height_11 ?_
  refine r_max C hl.1 (by omega) (Nat.le_of_ble_eq_true rfl) k780 d_Turn_height_12 ?_
  refine lv_topi (fun x_1 ex_1 => ?_)
  have hf := lt_e ex_1 hf
  refine lv_istore (lv' := [(4, .int x_1), (0, .ref (q 26)), (1, .int x1), (2, .int x2), (3, .int x3)]) hx hb d_Turn_height_15 hl (by decide) rfl (fun ls hl => ?_)
  refine lv_aload_n hx hb d_Turn_height_17 rfl (lv_at hl 1 rfl) ?_
  refine xg_26_bell C w k415 d_Turn_height_18 ?_
  refine lv_iload hx hb d_Turn_height_21 (lv_at hl 0 rfl) ?_
  refine lv_iload_n hx hb d_Turn_height_23 rfl (lv_at hl 3 rfl) ?_
  refine lv_iload_n hx hb d_Turn_height_24 rfl (lv_at hl 4 rfl) ?_
  refine lv_if_eq (tgt := 35) hx hb d_Turn_height_25 (by decide) (fun cd => ?_) (fun cd => ?_)
  · have hf := it_e cd hf
    refine lv_iconst (v := 0) hx hb d_Turn_height_35 (by decide) ?_
    exact t_Turn_height_2_36 C  hf w (lv_sub hl [] rfl)
  · have hf := if_e cd hf
    refine lv_aload_n hx hb d_Turn_height_28 rfl (lv_at hl 1 rfl) ?_
    refine xg_26_slack C w k417 d_Turn_height_29 ?_
    refine lv_goto (tgt := 36) hx hb d_Turn_height_32 (by decide) ?_
    exact t_Turn_height_2_36 C  hf w (lv_sub hl [] rfl)
def f_Turn_isNear (x1 : Int32) (σ : St) : Option (Int32) :=
  if (sI σ 46) ≤ x1 then
    some 0
  else
    if (sI σ 50) < ((sI σ 46) - x1) then
      some 0
    else
      some 1
set_option maxHeartbeats 4000000 in
set_option maxRecDepth 20000 in
theorem c_Turn_isNear {l : Launch} {g : GX} {q : Nat → Nat} {x1 : Int32}  {σ : St} {r : Int32} (hf : f_Turn_isNear  x1 σ = some r) : KK l y_Turn_isNear prog_10_method_7_code 2 (some .boolean) 0 g (wX g q) σ [.ref (q 26), .int x1] (some (.int r)) (wX g q) σ := by
  refine KK_of (plainFor_of_name (by decide)) (Nat.le_of_ble_eq_true rfl) (fun p e s m below meth c A ls C w hl => ?_)
  have hl : lv_has ls 2 [(0, .ref (q 26)), (1, .int x1)] := hl
  obtain ⟨hx, hb, hml, hown, hts, hK, hA, hZ, hlocks, hr, hN⟩ := id C
  unfold f_Turn_isNear at hf
  refine lv_iload_n hx hb d_Turn_isNear_0 rfl (lv_at hl 1 rfl) ?_
  refine lv_aload_n hx hb d_Turn_isNear_1 rfl (lv_at hl 0 rfl) ?_
  refine xg_26_bell C w k415 d_Turn_isNear_2 ?_
  refine lv_icmp_ge (tgt := 25) hx hb d_Turn_isNear_5 (by decide) (fun cd => ?_) (fun cd => ?_)
  · have hf := it_e cd hf
    refine lv_iconst (v := 0) hx hb d_Turn_isNear_25 (by decide) ?_
    cases some_e hf
    exact k_zret C w (by decide) d_Turn_isNear_26
  · have hf := if_e cd hf
    refine lv_aload_n hx hb d_Turn_isNear_8 rfl (lv_at hl 0 rfl) ?_
    refine xg_26_bell C w k415 d_Turn_isNear_9 ?_
    refine lv_iload_n hx hb d_Turn_isNear_12 rfl (lv_at hl 1 rfl) ?_
    refine lv_isub hx hb d_Turn_isNear_13 ?_
    refine lv_aload_n hx hb d_Turn_isNear_14 rfl (lv_at hl 0 rfl) ?_
    refine xg_26_near C w k421 d_Turn_isNear_15 ?_
    refine lv_icmp_gt (tgt := 25) hx hb d_Turn_isNear_18 (by decide) (fun cd => ?_) (fun cd => ?_)
    · have hf := it_e cd hf
      refine lv_iconst (v := 0) hx hb d_Turn_isNear_25 (by decide) ?_
      cases some_e hf
      exact k_zret C w (by decide) d_Turn_isNear_26
    · have hf := if_e cd hf
      refine lv_iconst (v := 1) hx hb d_Turn_isNear_21 (by decide) ?_
      refine lv_goto (tgt := 26) hx hb d_Turn_isNear_22 (by decide) ?_
      cases some_e hf
      exact k_zret C w (by decide) d_Turn_isNear_26
def f_Turn_brings (x1 : Int32) (σ : St) : Option (Int32) :=
  bp (f_Turn_isRing x1 σ) fun r_2 =>
  if r_2 = 0 then
    bp (f_Turn_isNear x1 σ) fun r_4 =>
    if r_4 = 0 then
      some (sA σ 17 (2 : Int32).toNatClampNeg)
    else
      some (sA σ 17 (1 : Int32).toNatClampNeg)
  else
    some (sA σ 17 (0 : Int32).toNatClampNeg)
set_option maxHeartbeats 4000000 in
set_option maxRecDepth 20000 in
theorem c_Turn_brings {l : Launch} {g : GX} {q : Nat → Nat} {x1 : Int32}  {σ : St} {r : Int32} (hf : f_Turn_brings  x1 σ = some r) : KK l y_Turn_brings prog_10_method_8_code 2 (some .int) 1 g (wX g q) σ [.ref (q 26), .int x1] (some (.int r)) (wX g q) σ := by
  refine KK_of (plainFor_of_name (by decide)) (Nat.le_of_ble_eq_true rfl) (fun p e s m below meth c A ls C w hl => ?_)
  have hl : lv_has ls 2 [(0, .ref (q 26)), (1, .int x1)] := hl
  obtain ⟨hx, hb, hml, hown, hts, hK, hA, hZ, hlocks, hr, hN⟩ := id C
  unfold f_Turn_brings at hf
  refine lv_aload_n hx hb d_Turn_brings_0 rfl (lv_at hl 0 rfl) ?_
  refine lv_iload_n hx hb d_Turn_brings_1 rfl (lv_at hl 1 rfl) ?_
  obtain ⟨r_2, h_1, hf⟩ := bp_e hf
  refine k_callV (As := [.int x1]) (rest := []) C w (c_Turn_isRing (q := q) h_1) cv_Turn_isRing k858 (xr_26 C w) (by decide) hl.1 rfl (Nat.le_of_ble_eq_true rfl) d_Turn_brings_2 (fun H locs w => ?_)
  show WK p l e s m _ below meth c 1 g (wX g q) A (some (.int r)) σ H locs (F0 m 5 ls [.int r_2])
  refine lv_if_eq (tgt := 15) hx hb d_Turn_brings_5 (by decide) (fun cd => ?_) (fun cd => ?_)
  · have hf := it_e cd hf
    refine lv_aload_n hx hb d_Turn_brings_15 rfl (lv_at hl 0 rfl) ?_
    refine lv_iload_n hx hb d_Turn_brings_16 rfl (lv_at hl 1 rfl) ?_
    obtain ⟨r_4, h_3, hf⟩ := bp_e hf
    refine k_callV (As := [.int x1]) (rest := []) C w (c_Turn_isNear (q := q) h_3) cv_Turn_isNear k878 (xr_26 C w) (by decide) hl.1 rfl (Nat.le_of_ble_eq_true rfl) d_Turn_brings_17 (fun H locs w => ?_)
    show WK p l e s m _ below meth c 1 g (wX g q) A (some (.int r)) σ H locs (F0 m 20 ls [.int r_4])
    refine lv_if_eq (tgt := 32) hx hb d_Turn_brings_20 (by decide) (fun cd => ?_) (fun cd => ?_)
    · have hf := it_e cd hf
      refine lv_aload_n hx hb d_Turn_brings_32 rfl (lv_at hl 0 rfl) ?_
      refine xg_26_comes C w k424 d_Turn_brings_33 ?_
      refine lv_iconst (v := 2) hx hb d_Turn_brings_36 (by decide) ?_
      refine xl_27 C w (by decide) d_Turn_brings_37 ?_
      cases some_e hf
      exact k_iret C w d_Turn_brings_38
    · have hf := if_e cd hf
      refine lv_aload_n hx hb d_Turn_brings_23 rfl (lv_at hl 0 rfl) ?_
      refine xg_26_comes C w k424 d_Turn_brings_24 ?_
      refine lv_iconst (v := 1) hx hb d_Turn_brings_27 (by decide) ?_
      refine xl_27 C w (by decide) d_Turn_brings_28 ?_
      refine lv_goto (tgt := 38) hx hb d_Turn_brings_29 (by decide) ?_
      cases some_e hf
      exact k_iret C w d_Turn_brings_38
  · have hf := if_e cd hf
    refine lv_aload_n hx hb d_Turn_brings_8 rfl (lv_at hl 0 rfl) ?_
    refine xg_26_comes C w k424 d_Turn_brings_9 ?_
    refine lv_iconst (v := 0) hx hb d_Turn_brings_12 (by decide) ?_
    refine xl_27 C w (by decide) d_Turn_brings_13 ?_
    cases some_e hf
    exact k_iret C w d_Turn_brings_14
def f_Showman_valueOf_2 (x1 : Int32) (σ : St) : Option (Int32) :=
  lt ((x1 - 10000)) fun x_1 =>
  if 0 ≤ x_1 then
    if 6 ≤ x_1 then
      some 0
    else
      gd (inB x_1 6) <|
      some (sA σ 18 x_1.toNatClampNeg)
  else
    some x1
set_option maxHeartbeats 4000000 in
set_option maxRecDepth 20000 in
theorem c_Showman_valueOf_2 {l : Launch} {g : GX} {q : Nat → Nat} {x1 : Int32}  {σ : St} {r : Int32} (hf : f_Showman_valueOf_2  x1 σ = some r) : KK l y_Showman_valueOf prog_7_method_6_code 3 (some .int) 0 g (wX g q) σ [.ref (q 28), .int x1] (some (.int r)) (wX g q) σ := by
  refine KK_of (plainFor_of_name (by decide)) (Nat.le_of_ble_eq_true rfl) (fun p e s m below meth c A ls C w hl => ?_)
  have hl : lv_has ls 3 [(0, .ref (q 28)), (1, .int x1)] := hl
  obtain ⟨hx, hb, hml, hown, hts, hK, hA, hZ, hlocks, hr, hN⟩ := id C
  unfold f_Showman_valueOf_2 at hf
  refine lv_iload_n hx hb d_Showman_valueOf_0 rfl (lv_at hl 1 rfl) ?_
  refine lv_sipush (v := 10000) hx hb d_Showman_valueOf_1 (by decide) ?_
  refine lv_isub hx hb d_Showman_valueOf_4 ?_
  refine lv_topi (fun x_1 ex_1 => ?_)
  have hf := lt_e ex_1 hf
  refine lv_istore_n (lv' := [(2, .int x_1), (0, .ref (q 28)), (1, .int x1)]) hx hb d_Showman_valueOf_5 rfl hl (by decide) rfl (fun ls hl => ?_)
  refine lv_iload_n hx hb d_Showman_valueOf_6 rfl (lv_at hl 0 rfl) ?_
  refine lv_if_ge (tgt := 12) hx hb d_Showman_valueOf_7 (by decide) (fun cd => ?_) (fun cd => ?_)
  · have hf := it_e cd hf
    refine lv_iload_n hx hb d_Showman_valueOf_12 rfl (lv_at hl 0 rfl) ?_
    refine lv_aload_n hx hb d_Showman_valueOf_13 rfl (lv_at hl 1 rfl) ?_
    refine xg_28_facts C w k391 d_Showman_valueOf_14 ?_
    refine xn_29 C w d_Showman_valueOf_17 ?_
    refine lv_icmp_ge (tgt := 30) hx hb d_Showman_valueOf_18 (by decide) (fun cd => ?_) (fun cd => ?_)
    · have hf := it_e cd hf
      refine lv_iconst (v := 0) hx hb d_Showman_valueOf_30 (by decide) ?_
      cases some_e hf
      exact k_iret C w d_Showman_valueOf_31
    · have hf := if_e cd hf
      refine lv_aload_n hx hb d_Showman_valueOf_21 rfl (lv_at hl 1 rfl) ?_
      refine xg_28_facts C w k391 d_Showman_valueOf_22 ?_
      refine lv_iload_n hx hb d_Showman_valueOf_25 rfl (lv_at hl 0 rfl) ?_
      obtain ⟨g_2, hf⟩ := gd_e hf
      refine xl_29 C w g_2 d_Showman_valueOf_26 ?_
      refine lv_goto (tgt := 31) hx hb d_Showman_valueOf_27 (by decide) ?_
      cases some_e hf
      exact k_iret C w d_Showman_valueOf_31
  · have hf := if_e cd hf
    refine lv_iload_n hx hb d_Showman_valueOf_10 rfl (lv_at hl 2 rfl) ?_
    cases some_e hf
    exact k_iret C w d_Showman_valueOf_11
def f_Showman_holds_2_145 (x4 : Int32) (σ : St) : Option (Int32 × St) :=
  if x4 ≤ 0 then
    some (0, σ)
  else
    gd (inB (x4 - 1) 64) <|
    if (sA σ 19 (x4 - 1).toNatClampNeg) = 0 then
      some (0, σ)
    else
      some (1, σ)
def f_Showman_holds_2_6b (k6 : Int32 → Int32 → Int32 → St → Option (Int32 × St)) (x3 : Int32) (x4 : Int32) (x5 : Int32) (σ : St) : Option (Int32 × St) :=
  if x3 ≤ x5 then
    f_Showman_holds_2_145 x4 σ
  else
    if 1600 ≤ x5 then
      f_Showman_holds_2_145 x4 σ
    else
      gd (inB x5 1600) <|
      lt ((sA σ 26 x5.toNatClampNeg)) fun x_2 =>
      if 10010 ≤ x_2 then
        if x_2 = 10010 then
          if x4 ≤ 0 then
            lt ((x5 + 1)) fun x_12 =>
            k6 x3 x4 x_12 σ
          else
            gd (inB (x4 - 1) 64) <|
            gd (inB (x4 - 1) 64) <|
            lt (uA σ 19 (upd (sA σ 19) (x4 - 1).toNatClampNeg (1 - (sA σ 19 (x4 - 1).toNatClampNeg)))) fun σ_15 =>
            lt ((x5 + 1)) fun x_16 =>
            k6 x3 x4 x_16 σ_15
        else
          if x4 ≤ 1 then
            lt ((x5 + 1)) fun x_3 =>
            k6 x3 x4 x_3 σ
          else
            gd (inB (x4 - 2) 64) <|
            gd (inB (x4 - 1) 64) <|
            bp (f_Showman_join x_2 (sA σ 19 (x4 - 2).toNatClampNeg) (sA σ 19 (x4 - 1).toNatClampNeg) σ) fun r_7 =>
            gd (inB (x4 - 2) 64) <|
            lt (uA σ 19 (upd (sA σ 19) (x4 - 2).toNatClampNeg r_7)) fun σ_9 =>
            lt ((x4 + (-1))) fun x_10 =>
            lt ((x5 + 1)) fun x_11 =>
            k6 x3 x_10 x_11 σ_9
      else
        if 64 ≤ x4 then
          lt ((x5 + 1)) fun x_17 =>
          k6 x3 x4 x_17 σ
        else
          bp (f_Showman_valueOf_2 x_2 σ) fun r_19 =>
          gd (inB x4 64) <|
          lt (uA σ 19 (upd (sA σ 19) x4.toNatClampNeg r_19)) fun σ_21 =>
          lt ((x4 + 1)) fun x_22 =>
          lt ((x5 + 1)) fun x_23 =>
          k6 x3 x_22 x_23 σ_21
def f_Showman_holds_2_6 : Nat → Int32 → Int32 → Int32 → St → Option (Int32 × St)
  | 0 => fun _ _ _ _ => none
  | n + 1 => f_Showman_holds_2_6b   (f_Showman_holds_2_6   n)
def f_Showman_holds_2 (x2 : Int32) (x3 : Int32) (σ : St) : Option (Int32 × St) :=
  f_Showman_holds_2_6 FU x3 0 x2 σ
set_option maxHeartbeats 4000000 in
set_option maxRecDepth 20000 in
theorem t_Showman_holds_2_145 {r : Int32} {σ2 : St} (C : Cx g A p s m av meth c prog_7_method_5_code 7 "BellHammer$Showman" (some .boolean))  {x4 : Int32} {σ : St} {H : Heap} {locs : List Loc} {ls : Array Slot} (hf : f_Showman_holds_2_145   x4 σ = some (r, σ2)) (w : Wd g (wX g q) A s σ H locs) (hl : lv_has ls 7 [(0, .ref (q 28)), (4, .int x4)]) : WK p l e s m av below meth c 2 g (wX g q) A (some (.int r)) σ2 H locs (F0 m 145 ls []) := by
  obtain ⟨hx, hb, hml, hown, hts, hK, hA, hZ, hlocks, hr, hN⟩ := id C
  unfold f_Showman_holds_2_145 at hf
  refine lv_iload hx hb d_Showman_holds_145 (lv_at hl 1 rfl) ?_
  refine lv_if_le (tgt := 166) hx hb d_Showman_holds_147 (by decide) (fun cd => ?_) (fun cd => ?_)
  · have hf := it_e cd hf
    refine lv_iconst (v := 0) hx hb d_Showman_holds_166 (by decide) ?_
    obtain ⟨rfl, rfl⟩ := some2_e hf
    exact k_zret C w (by decide) d_Showman_holds_167
  · have hf := if_e cd hf
    refine lv_aload_n hx hb d_Showman_holds_150 rfl (lv_at hl 0 rfl) ?_
    refine xg_28_stack C w k392 d_Showman_holds_151 ?_
    refine lv_iload hx hb d_Showman_holds_154 (lv_at hl 1 rfl) ?_
    refine lv_iconst (v := 1) hx hb d_Showman_holds_156 (by decide) ?_
    refine lv_isub hx hb d_Showman_holds_157 ?_
    obtain ⟨g_1, hf⟩ := gd_e hf
    refine xl_30 C w g_1 d_Showman_holds_158 ?_
    refine lv_if_eq (tgt := 166) hx hb d_Showman_holds_159 (by decide) (fun cd => ?_) (fun cd => ?_)
    · have hf := it_e cd hf
      refine lv_iconst (v := 0) hx hb d_Showman_holds_166 (by decide) ?_
      obtain ⟨rfl, rfl⟩ := some2_e hf
      exact k_zret C w (by decide) d_Showman_holds_167
    · have hf := if_e cd hf
      refine lv_iconst (v := 1) hx hb d_Showman_holds_162 (by decide) ?_
      refine lv_goto (tgt := 167) hx hb d_Showman_holds_163 (by decide) ?_
      obtain ⟨rfl, rfl⟩ := some2_e hf
      exact k_zret C w (by decide) d_Showman_holds_167
set_option maxHeartbeats 4000000 in
set_option maxRecDepth 20000 in
theorem t_Showman_holds_2_6b {r : Int32} {σ2 : St} (C : Cx g A p s m av meth c prog_7_method_5_code 7 "BellHammer$Showman" (some .boolean)) {k6 : Int32 → Int32 → Int32 → St → Option (Int32 × St)} (hk6 : ∀ (x3 : Int32) (x4 : Int32) (x5 : Int32) (σ : St) (H : Heap) (locs : List Loc) (ls : Array Slot), k6 x3 x4 x5 σ = some (r, σ2) → Wd g (wX g q) A s σ H locs → lv_has ls 7 [(0, .ref (q 28)), (1, .ref (q 40)), (3, .int x3), (4, .int x4), (5, .int x5)] → WK p l e s m av below meth c 2 g (wX g q) A (some (.int r)) σ2 H locs (F0 m 6 ls []))  {x3 : Int32} {x4 : Int32} {x5 : Int32} {σ : St} {H : Heap} {locs : List Loc} {ls : Array Slot} (hf : f_Showman_holds_2_6b  k6 x3 x4 x5 σ = some (r, σ2)) (w : Wd g (wX g q) A s σ H locs) (hl : lv_has ls 7 [(0, .ref (q 28)), (1, .ref (q 40)), (3, .int x3), (4, .int x4), (5, .int x5)]) : WK p l e s m av below meth c 2 g (wX g q) A (some (.int r)) σ2 H locs (F0 m 6 ls []) := by
  obtain ⟨hx, hb, hml, hown, hts, hK, hA, hZ, hlocks, hr, hN⟩ := id C
  unfold f_Showman_holds_2_6b at hf
  refine lv_iload hx hb d_Showman_holds_6 (lv_at hl 4 rfl) ?_
  refine lv_iload_n hx hb d_Showman_holds_8 rfl (lv_at hl 2 rfl) ?_
  refine lv_icmp_ge (tgt := 145) hx hb d_Showman_holds_9 (by decide) (fun cd => ?_) (fun cd => ?_)
  · have hf := it_e cd hf
    exact t_Showman_holds_2_145 C  hf w (lv_sub hl [0, 3] rfl)
  · have hf := if_e cd hf
    refine lv_iload hx hb d_Showman_holds_12 (lv_at hl 4 rfl) ?_
    refine lv_aload_n hx hb d_Showman_holds_14 rfl (lv_at hl 1 rfl) ?_
    refine xn_40 C w d_Showman_holds_15 ?_
    refine lv_icmp_ge (tgt := 145) hx hb d_Showman_holds_16 (by decide) (fun cd => ?_) (fun cd => ?_)
    · have hf := it_e cd hf
      exact t_Showman_holds_2_145 C  hf w (lv_sub hl [0, 3] rfl)
    · have hf := if_e cd hf
      refine lv_aload_n hx hb d_Showman_holds_19 rfl (lv_at hl 1 rfl) ?_
      refine lv_iload hx hb d_Showman_holds_20 (lv_at hl 4 rfl) ?_
      obtain ⟨g_1, hf⟩ := gd_e hf
      refine xl_40 C w g_1 d_Showman_holds_22 ?_
      refine lv_topi (fun x_2 ex_2 => ?_)
      have hf := lt_e ex_2 hf
      refine lv_istore (lv' := [(6, .int x_2), (0, .ref (q 28)), (1, .ref (q 40)), (3, .int x3), (4, .int x4), (5, .int x5)]) hx hb d_Showman_holds_23 hl (by decide) rfl (fun ls hl => ?_)
      refine lv_iload hx hb d_Showman_holds_25 (lv_at hl 0 rfl) ?_
      refine lv_sipush (v := 10010) hx hb d_Showman_holds_27 (by decide) ?_
      refine lv_icmp_ge (tgt := 62) hx hb d_Showman_holds_30 (by decide) (fun cd => ?_) (fun cd => ?_)
      · have hf := it_e cd hf
        refine lv_iload hx hb d_Showman_holds_62 (lv_at hl 0 rfl) ?_
        refine lv_sipush (v := 10010) hx hb d_Showman_holds_64 (by decide) ?_
        refine lv_icmp_ne (tgt := 98) hx hb d_Showman_holds_67 (by decide) (fun cd => ?_) (fun cd => ?_)
        · have hf := if_e cd hf
          refine lv_iload hx hb d_Showman_holds_98 (lv_at hl 4 rfl) ?_
          refine lv_iconst (v := 1) hx hb d_Showman_holds_100 (by decide) ?_
          refine lv_icmp_le (tgt := 139) hx hb d_Showman_holds_101 (by decide) (fun cd => ?_) (fun cd => ?_)
          · have hf := it_e cd hf
            obtain ⟨x_3, ex_3⟩ : ∃ y : Int32, y = (x5 + 1) := ⟨_, rfl⟩
            have hf := lt_e ex_3 hf
            refine lv_iinc (v := x_3) (lv' := [(5, .int x_3), (6, .int x_2), (0, .ref (q 28)), (1, .ref (q 40)), (3, .int x3), (4, .int x4)]) hx hb d_Showman_holds_139 hl (k := 5) rfl (by rw [ex_3]; rfl) (by decide) rfl (fun ls hl => ?_)
            refine lv_goto (tgt := 6) hx hb d_Showman_holds_142 (by decide) ?_
            exact hk6 x3 x4 x_3 σ _ _ _ hf w (lv_sub hl [2, 3, 4, 5, 0] rfl)
          · have hf := if_e cd hf
            refine lv_aload_n hx hb d_Showman_holds_104 rfl (lv_at hl 1 rfl) ?_
            refine xg_28_stack C w k392 d_Showman_holds_105 ?_
            refine lv_iload hx hb d_Showman_holds_108 (lv_at hl 4 rfl) ?_
            refine lv_iconst (v := 2) hx hb d_Showman_holds_110 (by decide) ?_
            refine lv_isub hx hb d_Showman_holds_111 ?_
            refine lv_iload hx hb d_Showman_holds_112 (lv_at hl 0 rfl) ?_
            refine lv_aload_n hx hb d_Showman_holds_114 rfl (lv_at hl 1 rfl) ?_
            refine xg_28_stack C w k392 d_Showman_holds_115 ?_
            refine lv_iload hx hb d_Showman_holds_118 (lv_at hl 4 rfl) ?_
            refine lv_iconst (v := 2) hx hb d_Showman_holds_120 (by decide) ?_
            refine lv_isub hx hb d_Showman_holds_121 ?_
            obtain ⟨g_4, hf⟩ := gd_e hf
            refine xl_30 C w g_4 d_Showman_holds_122 ?_
            refine lv_aload_n hx hb d_Showman_holds_123 rfl (lv_at hl 1 rfl) ?_
            refine xg_28_stack C w k392 d_Showman_holds_124 ?_
            refine lv_iload hx hb d_Showman_holds_127 (lv_at hl 4 rfl) ?_
            refine lv_iconst (v := 1) hx hb d_Showman_holds_129 (by decide) ?_
            refine lv_isub hx hb d_Showman_holds_130 ?_
            obtain ⟨g_5, hf⟩ := gd_e hf
            refine xl_30 C w g_5 d_Showman_holds_131 ?_
            obtain ⟨r_7, h_6, hf⟩ := bp_e hf
            refine k_callS (As := [.int x_2, .int (sA σ 19 (x4 - 2).toNatClampNeg), .int (sA σ 19 (x4 - 1).toNatClampNeg)]) (rest := [.int (x4 - 2), .ref (q 30)]) C w (c_Showman_join (q := q) h_6) cv_Showman_join k824 (by decide) hl.1 rfl (Nat.le_of_ble_eq_true rfl) d_Showman_holds_132 (fun H locs w => ?_)
            show WK p l e s m av below meth c 2 g (wX g q) A (some (.int r)) σ2 H locs (F0 m 135 ls [.int r_7, .int (x4 - 2), .ref (q 30)])
            obtain ⟨g_8, hf⟩ := gd_e hf
            refine xs_30 C w g_8 d_Showman_holds_135 (fun σ_9 H locs eσ_9 w => ?_)
            have hf := lt_e eσ_9 hf
            obtain ⟨x_10, ex_10⟩ : ∃ y : Int32, y = (x4 + (-1)) := ⟨_, rfl⟩
            have hf := lt_e ex_10 hf
            refine lv_iinc (v := x_10) (lv' := [(4, .int x_10), (6, .int x_2), (0, .ref (q 28)), (1, .ref (q 40)), (3, .int x3), (5, .int x5)]) hx hb d_Showman_holds_136 hl (k := 4) rfl (by rw [ex_10]; rfl) (by decide) rfl (fun ls hl => ?_)
            obtain ⟨x_11, ex_11⟩ : ∃ y : Int32, y = (x5 + 1) := ⟨_, rfl⟩
            have hf := lt_e ex_11 hf
            refine lv_iinc (v := x_11) (lv' := [(5, .int x_11), (4, .int x_10), (6, .int x_2), (0, .ref (q 28)), (1, .ref (q 40)), (3, .int x3)]) hx hb d_Showman_holds_139 hl (k := 5) rfl (by rw [ex_11]; rfl) (by decide) rfl (fun ls hl => ?_)
            refine lv_goto (tgt := 6) hx hb d_Showman_holds_142 (by decide) ?_
            exact hk6 x3 x_10 x_11 σ_9 _ _ _ hf w (lv_sub hl [3, 4, 5, 1, 0] rfl)
        · have hf := it_e cd hf
          refine lv_iload hx hb d_Showman_holds_70 (lv_at hl 4 rfl) ?_
          refine lv_if_le (tgt := 139) hx hb d_Showman_holds_72 (by decide) (fun cd => ?_) (fun cd => ?_)
          · have hf := it_e cd hf
            obtain ⟨x_12, ex_12⟩ : ∃ y : Int32, y = (x5 + 1) := ⟨_, rfl⟩
            have hf := lt_e ex_12 hf
            refine lv_iinc (v := x_12) (lv' := [(5, .int x_12), (6, .int x_2), (0, .ref (q 28)), (1, .ref (q 40)), (3, .int x3), (4, .int x4)]) hx hb d_Showman_holds_139 hl (k := 5) rfl (by rw [ex_12]; rfl) (by decide) rfl (fun ls hl => ?_)
            refine lv_goto (tgt := 6) hx hb d_Showman_holds_142 (by decide) ?_
            exact hk6 x3 x4 x_12 σ _ _ _ hf w (lv_sub hl [2, 3, 4, 5, 0] rfl)
          · have hf := if_e cd hf
            refine lv_aload_n hx hb d_Showman_holds_75 rfl (lv_at hl 1 rfl) ?_
            refine xg_28_stack C w k392 d_Showman_holds_76 ?_
            refine lv_iload hx hb d_Showman_holds_79 (lv_at hl 4 rfl) ?_
            refine lv_iconst (v := 1) hx hb d_Showman_holds_81 (by decide) ?_
            refine lv_isub hx hb d_Showman_holds_82 ?_
            refine lv_iconst (v := 1) hx hb d_Showman_holds_83 (by decide) ?_
            refine lv_aload_n hx hb d_Showman_holds_84 rfl (lv_at hl 1 rfl) ?_
            refine xg_28_stack C w k392 d_Showman_holds_85 ?_
            refine lv_iload hx hb d_Showman_holds_88 (lv_at hl 4 rfl) ?_
            refine lv_iconst (v := 1) hx hb d_Showman_holds_90 (by decide) ?_
            refine lv_isub hx hb d_Showman_holds_91 ?_
            obtain ⟨g_13, hf⟩ := gd_e hf
            refine xl_30 C w g_13 d_Showman_holds_92 ?_
            refine lv_isub hx hb d_Showman_holds_93 ?_
            obtain ⟨g_14, hf⟩ := gd_e hf
            refine xs_30 C w g_14 d_Showman_holds_94 (fun σ_15 H locs eσ_15 w => ?_)
            have hf := lt_e eσ_15 hf
            refine lv_goto (tgt := 139) hx hb d_Showman_holds_95 (by decide) ?_
            obtain ⟨x_16, ex_16⟩ : ∃ y : Int32, y = (x5 + 1) := ⟨_, rfl⟩
            have hf := lt_e ex_16 hf
            refine lv_iinc (v := x_16) (lv' := [(5, .int x_16), (6, .int x_2), (0, .ref (q 28)), (1, .ref (q 40)), (3, .int x3), (4, .int x4)]) hx hb d_Showman_holds_139 hl (k := 5) rfl (by rw [ex_16]; rfl) (by decide) rfl (fun ls hl => ?_)
            refine lv_goto (tgt := 6) hx hb d_Showman_holds_142 (by decide) ?_
            exact hk6 x3 x4 x_16 σ_15 _ _ _ hf w (lv_sub hl [2, 3, 4, 5, 0] rfl)
      · have hf := if_e cd hf
        refine lv_iload hx hb d_Showman_holds_33 (lv_at hl 4 rfl) ?_
        refine lv_aload_n hx hb d_Showman_holds_35 rfl (lv_at hl 1 rfl) ?_
        refine xg_28_stack C w k392 d_Showman_holds_36 ?_
        refine xn_30 C w d_Showman_holds_39 ?_
        refine lv_icmp_ge (tgt := 139) hx hb d_Showman_holds_40 (by decide) (fun cd => ?_) (fun cd => ?_)
        · have hf := it_e cd hf
          obtain ⟨x_17, ex_17⟩ : ∃ y : Int32, y = (x5 + 1) := ⟨_, rfl⟩
          have hf := lt_e ex_17 hf
          refine lv_iinc (v := x_17) (lv' := [(5, .int x_17), (6, .int x_2), (0, .ref (q 28)), (1, .ref (q 40)), (3, .int x3), (4, .int x4)]) hx hb d_Showman_holds_139 hl (k := 5) rfl (by rw [ex_17]; rfl) (by decide) rfl (fun ls hl => ?_)
          refine lv_goto (tgt := 6) hx hb d_Showman_holds_142 (by decide) ?_
          exact hk6 x3 x4 x_17 σ _ _ _ hf w (lv_sub hl [2, 3, 4, 5, 0] rfl)
        · have hf := if_e cd hf
          refine lv_aload_n hx hb d_Showman_holds_43 rfl (lv_at hl 1 rfl) ?_
          refine xg_28_stack C w k392 d_Showman_holds_44 ?_
          refine lv_iload hx hb d_Showman_holds_47 (lv_at hl 4 rfl) ?_
          refine lv_aload_n hx hb d_Showman_holds_49 rfl (lv_at hl 1 rfl) ?_
          refine lv_iload hx hb d_Showman_holds_50 (lv_at hl 0 rfl) ?_
          obtain ⟨r_19, h_18, hf⟩ := bp_e hf
          refine k_callV (As := [.int x_2]) (rest := [.int x4, .ref (q 30)]) C w (c_Showman_valueOf_2 (q := q) h_18) cv_Showman_valueOf k820 (xr_28 C w) (by decide) hl.1 rfl (Nat.le_of_ble_eq_true rfl) d_Showman_holds_52 (fun H locs w => ?_)
          show WK p l e s m av below meth c 2 g (wX g q) A (some (.int r)) σ2 H locs (F0 m 55 ls [.int r_19, .int x4, .ref (q 30)])
          obtain ⟨g_20, hf⟩ := gd_e hf
          refine xs_30 C w g_20 d_Showman_holds_55 (fun σ_21 H locs eσ_21 w => ?_)
          have hf := lt_e eσ_21 hf
          obtain ⟨x_22, ex_22⟩ : ∃ y : Int32, y = (x4 + 1) := ⟨_, rfl⟩
          have hf := lt_e ex_22 hf
          refine lv_iinc (v := x_22) (lv' := [(4, .int x_22), (6, .int x_2), (0, .ref (q 28)), (1, .ref (q 40)), (3, .int x3), (5, .int x5)]) hx hb d_Showman_holds_56 hl (k := 4) rfl (by rw [ex_22]; rfl) (by decide) rfl (fun ls hl => ?_)
          refine lv_goto (tgt := 139) hx hb d_Showman_holds_59 (by decide) ?_
          obtain ⟨x_23, ex_23⟩ : ∃ y : Int32, y = (x5 + 1) := ⟨_, rfl⟩
          have hf := lt_e ex_23 hf
          refine lv_iinc (v := x_23) (lv' := [(5, .int x_23), (4, .int x_22), (6, .int x_2), (0, .ref (q 28)), (1, .ref (q 40)), (3, .int x3)]) hx hb d_Showman_holds_139 hl (k := 5) rfl (by rw [ex_23]; rfl) (by decide) rfl (fun ls hl => ?_)
          refine lv_goto (tgt := 6) hx hb d_Showman_holds_142 (by decide) ?_
          exact hk6 x3 x_22 x_23 σ_21 _ _ _ hf w (lv_sub hl [3, 4, 5, 1, 0] rfl)
set_option maxHeartbeats 4000000 in
set_option maxRecDepth 20000 in
theorem t_Showman_holds_2_6 {r : Int32} {σ2 : St} (C : Cx g A p s m av meth c prog_7_method_5_code 7 "BellHammer$Showman" (some .boolean))  : ∀ (n : Nat) (x3 : Int32) (x4 : Int32) (x5 : Int32) (σ : St) (H : Heap) (locs : List Loc) (ls : Array Slot), f_Showman_holds_2_6   n x3 x4 x5 σ = some (r, σ2) → Wd g (wX g q) A s σ H locs → lv_has ls 7 [(0, .ref (q 28)), (1, .ref (q 40)), (3, .int x3), (4, .int x4), (5, .int x5)] → WK p l e s m av below meth c 2 g (wX g q) A (some (.int r)) σ2 H locs (F0 m 6 ls []) := by
  intro n
  induction n with
  | zero => intro x3 x4 x5 σ H locs ls hf; exact absurd hf (by intro z; cases z)
  | succ n ih => intro x3 x4 x5 σ H locs ls hf w hl; exact t_Showman_holds_2_6b C  ih hf w hl
set_option maxHeartbeats 4000000 in
set_option maxRecDepth 20000 in
theorem c_Showman_holds_2 {l : Launch} {g : GX} {q : Nat → Nat} {x2 : Int32} {x3 : Int32}  {σ : St} {r : Int32} {σ2 : St} (hf : f_Showman_holds_2  x2 x3 σ = some (r, σ2)) : KK l y_Showman_holds prog_7_method_5_code 7 (some .boolean) 2 g (wX g q) σ [.ref (q 28), .ref (q 40), .int x2, .int x3] (some (.int r)) (wX g q) σ2 := by
  refine KK_of (plainFor_of_name (by decide)) (Nat.le_of_ble_eq_true rfl) (fun p e s m below meth c A ls C w hl => ?_)
  have hl : lv_has ls 7 [(0, .ref (q 28)), (1, .ref (q 40)), (2, .int x2), (3, .int x3)] := hl
  obtain ⟨hx, hb, hml, hown, hts, hK, hA, hZ, hlocks, hr, hN⟩ := id C
  unfold f_Showman_holds_2 at hf
  refine lv_iconst (v := 0) hx hb d_Showman_holds_0 (by decide) ?_
  refine lv_istore (lv' := [(4, .int 0), (0, .ref (q 28)), (1, .ref (q 40)), (2, .int x2), (3, .int x3)]) hx hb d_Showman_holds_1 hl (by decide) rfl (fun ls hl => ?_)
  refine lv_iload_n hx hb d_Showman_holds_3 rfl (lv_at hl 3 rfl) ?_
  refine lv_istore (lv' := [(5, .int x2), (4, .int 0), (0, .ref (q 28)), (1, .ref (q 40)), (2, .int x2), (3, .int x3)]) hx hb d_Showman_holds_4 hl (by decide) rfl (fun ls hl => ?_)
  exact t_Showman_holds_2_6 C  FU x3 0 x2 σ _ _ _ hf w (lv_sub hl [2, 3, 5, 1, 0] rfl)
def f_Showman_rulesThatHold_2_42 (k7 : Int32 → Int32 → Int32 → St → Option (Int32 × St)) (x2 : Int32) (x4 : Int32) (σ : St) : Option (Int32 × St) :=
  gd (inB x4 6) <|
  lt ((sA σ 27 x4.toNatClampNeg)) fun x_2 =>
  lt ((x4 + 1)) fun x_3 =>
  k7 x2 x_2 x_3 σ
def f_Showman_rulesThatHold_2_7b (k7 : Int32 → Int32 → Int32 → St → Option (Int32 × St)) (x2 : Int32) (x3 : Int32) (x4 : Int32) (σ : St) : Option (Int32 × St) :=
  if (sI σ 55) ≤ x4 then
    some (x2, σ)
  else
    gd (inB x4 6) <|
    bd (f_Showman_holds_2 x3 (sA σ 27 x4.toNatClampNeg) σ) fun r_3 σ_4 =>
    if r_3 = 0 then
      f_Showman_rulesThatHold_2_42 k7 x2 x4 σ_4
    else
      lt ((x2 ||| (1 <<< (x4 &&& 31)))) fun x_5 =>
      f_Showman_rulesThatHold_2_42 k7 x_5 x4 σ_4
def f_Showman_rulesThatHold_2_7 : Nat → Int32 → Int32 → Int32 → St → Option (Int32 × St)
  | 0 => fun _ _ _ _ => none
  | n + 1 => f_Showman_rulesThatHold_2_7b   (f_Showman_rulesThatHold_2_7   n)
def f_Showman_rulesThatHold_2 (σ : St) : Option (Int32 × St) :=
  f_Showman_rulesThatHold_2_7 FU 0 0 0 σ
set_option maxHeartbeats 4000000 in
set_option maxRecDepth 20000 in
theorem t_Showman_rulesThatHold_2_42 {r : Int32} {σ2 : St} (C : Cx g A p s m av meth c prog_7_method_4_code 5 "BellHammer$Showman" (some .int)) {k7 : Int32 → Int32 → Int32 → St → Option (Int32 × St)} (hk7 : ∀ (x2 : Int32) (x3 : Int32) (x4 : Int32) (σ : St) (H : Heap) (locs : List Loc) (ls : Array Slot), k7 x2 x3 x4 σ = some (r, σ2) → Wd g (wX g q) A s σ H locs → lv_has ls 5 [(0, .ref (q 28)), (1, .ref (q 34)), (2, .int x2), (3, .int x3), (4, .int x4)] → WK p l e s m av below meth c 3 g (wX g q) A (some (.int r)) σ2 H locs (F0 m 7 ls []))  {x2 : Int32} {x4 : Int32} {σ : St} {H : Heap} {locs : List Loc} {ls : Array Slot} (hf : f_Showman_rulesThatHold_2_42  k7 x2 x4 σ = some (r, σ2)) (w : Wd g (wX g q) A s σ H locs) (hl : lv_has ls 5 [(0, .ref (q 28)), (1, .ref (q 34)), (2, .int x2), (4, .int x4)]) : WK p l e s m av below meth c 3 g (wX g q) A (some (.int r)) σ2 H locs (F0 m 42 ls []) := by
  obtain ⟨hx, hb, hml, hown, hts, hK, hA, hZ, hlocks, hr, hN⟩ := id C
  unfold f_Showman_rulesThatHold_2_42 at hf
  refine lv_aload_n hx hb d_Showman_rulesThatHold_42 rfl (lv_at hl 1 rfl) ?_
  refine xg_34_ruleEnd C w k268 d_Showman_rulesThatHold_43 ?_
  refine lv_iload hx hb d_Showman_rulesThatHold_46 (lv_at hl 3 rfl) ?_
  obtain ⟨g_1, hf⟩ := gd_e hf
  refine xl_41 C w g_1 d_Showman_rulesThatHold_48 ?_
  refine lv_topi (fun x_2 ex_2 => ?_)
  have hf := lt_e ex_2 hf
  refine lv_istore_n (lv' := [(3, .int x_2), (0, .ref (q 28)), (1, .ref (q 34)), (2, .int x2), (4, .int x4)]) hx hb d_Showman_rulesThatHold_49 rfl hl (by decide) rfl (fun ls hl => ?_)
  obtain ⟨x_3, ex_3⟩ : ∃ y : Int32, y = (x4 + 1) := ⟨_, rfl⟩
  have hf := lt_e ex_3 hf
  refine lv_iinc (v := x_3) (lv' := [(4, .int x_3), (3, .int x_2), (0, .ref (q 28)), (1, .ref (q 34)), (2, .int x2)]) hx hb d_Showman_rulesThatHold_50 hl (k := 4) rfl (by rw [ex_3]; rfl) (by decide) rfl (fun ls hl => ?_)
  refine lv_goto (tgt := 7) hx hb d_Showman_rulesThatHold_53 (by decide) ?_
  exact hk7 x2 x_2 x_3 σ _ _ _ hf w (lv_sub hl [2, 3, 4, 1, 0] rfl)
set_option maxHeartbeats 4000000 in
set_option maxRecDepth 20000 in
theorem t_Showman_rulesThatHold_2_7b {r : Int32} {σ2 : St} (C : Cx g A p s m av meth c prog_7_method_4_code 5 "BellHammer$Showman" (some .int)) {k7 : Int32 → Int32 → Int32 → St → Option (Int32 × St)} (hk7 : ∀ (x2 : Int32) (x3 : Int32) (x4 : Int32) (σ : St) (H : Heap) (locs : List Loc) (ls : Array Slot), k7 x2 x3 x4 σ = some (r, σ2) → Wd g (wX g q) A s σ H locs → lv_has ls 5 [(0, .ref (q 28)), (1, .ref (q 34)), (2, .int x2), (3, .int x3), (4, .int x4)] → WK p l e s m av below meth c 3 g (wX g q) A (some (.int r)) σ2 H locs (F0 m 7 ls []))  {x2 : Int32} {x3 : Int32} {x4 : Int32} {σ : St} {H : Heap} {locs : List Loc} {ls : Array Slot} (hf : f_Showman_rulesThatHold_2_7b  k7 x2 x3 x4 σ = some (r, σ2)) (w : Wd g (wX g q) A s σ H locs) (hl : lv_has ls 5 [(0, .ref (q 28)), (1, .ref (q 34)), (2, .int x2), (3, .int x3), (4, .int x4)]) : WK p l e s m av below meth c 3 g (wX g q) A (some (.int r)) σ2 H locs (F0 m 7 ls []) := by
  obtain ⟨hx, hb, hml, hown, hts, hK, hA, hZ, hlocks, hr, hN⟩ := id C
  unfold f_Showman_rulesThatHold_2_7b at hf
  refine lv_iload hx hb d_Showman_rulesThatHold_7 (lv_at hl 4 rfl) ?_
  refine lv_aload_n hx hb d_Showman_rulesThatHold_9 rfl (lv_at hl 1 rfl) ?_
  refine xg_34_rules C w k281 d_Showman_rulesThatHold_10 ?_
  refine lv_icmp_ge (tgt := 56) hx hb d_Showman_rulesThatHold_13 (by decide) (fun cd => ?_) (fun cd => ?_)
  · have hf := it_e cd hf
    refine lv_iload_n hx hb d_Showman_rulesThatHold_56 rfl (lv_at hl 2 rfl) ?_
    obtain ⟨rfl, rfl⟩ := some2_e hf
    exact k_iret C w d_Showman_rulesThatHold_57
  · have hf := if_e cd hf
    refine lv_aload_n hx hb d_Showman_rulesThatHold_16 rfl (lv_at hl 0 rfl) ?_
    refine lv_aload_n hx hb d_Showman_rulesThatHold_17 rfl (lv_at hl 1 rfl) ?_
    refine xg_34_code C w k266 d_Showman_rulesThatHold_18 ?_
    refine lv_iload_n hx hb d_Showman_rulesThatHold_21 rfl (lv_at hl 3 rfl) ?_
    refine lv_aload_n hx hb d_Showman_rulesThatHold_22 rfl (lv_at hl 1 rfl) ?_
    refine xg_34_ruleEnd C w k268 d_Showman_rulesThatHold_23 ?_
    refine lv_iload hx hb d_Showman_rulesThatHold_26 (lv_at hl 4 rfl) ?_
    obtain ⟨g_1, hf⟩ := gd_e hf
    refine xl_41 C w g_1 d_Showman_rulesThatHold_28 ?_
    obtain ⟨r_3, σ_4, h_2, hf⟩ := bd_e hf
    refine k_callV (As := [.ref (q 40), .int x3, .int (sA σ 27 x4.toNatClampNeg)]) (rest := []) C w (c_Showman_holds_2 (q := q) h_2) cv_Showman_holds k816 (xr_28 C w) (by decide) hl.1 rfl (Nat.le_of_ble_eq_true rfl) d_Showman_rulesThatHold_29 (fun H locs w => ?_)
    show WK p l e s m av below meth c 3 g (wX g q) A (some (.int r)) σ2 H locs (F0 m 32 ls [.int r_3])
    refine lv_if_eq (tgt := 42) hx hb d_Showman_rulesThatHold_32 (by decide) (fun cd => ?_) (fun cd => ?_)
    · have hf := it_e cd hf
      exact t_Showman_rulesThatHold_2_42 C hk7 hf w (lv_sub hl [0, 1, 2, 4] rfl)
    · have hf := if_e cd hf
      refine lv_iload_n hx hb d_Showman_rulesThatHold_35 rfl (lv_at hl 2 rfl) ?_
      refine lv_iconst (v := 1) hx hb d_Showman_rulesThatHold_36 (by decide) ?_
      refine lv_iload hx hb d_Showman_rulesThatHold_37 (lv_at hl 4 rfl) ?_
      refine lv_ishl hx hb d_Showman_rulesThatHold_39 ?_
      refine lv_ior hx hb d_Showman_rulesThatHold_40 ?_
      refine lv_topi (fun x_5 ex_5 => ?_)
      have hf := lt_e ex_5 hf
      refine lv_istore_n (lv' := [(2, .int x_5), (0, .ref (q 28)), (1, .ref (q 34)), (3, .int x3), (4, .int x4)]) hx hb d_Showman_rulesThatHold_41 rfl hl (by decide) rfl (fun ls hl => ?_)
      exact t_Showman_rulesThatHold_2_42 C hk7 hf w (lv_sub hl [1, 2, 0, 4] rfl)
set_option maxHeartbeats 4000000 in
set_option maxRecDepth 20000 in
theorem t_Showman_rulesThatHold_2_7 {r : Int32} {σ2 : St} (C : Cx g A p s m av meth c prog_7_method_4_code 5 "BellHammer$Showman" (some .int))  : ∀ (n : Nat) (x2 : Int32) (x3 : Int32) (x4 : Int32) (σ : St) (H : Heap) (locs : List Loc) (ls : Array Slot), f_Showman_rulesThatHold_2_7   n x2 x3 x4 σ = some (r, σ2) → Wd g (wX g q) A s σ H locs → lv_has ls 5 [(0, .ref (q 28)), (1, .ref (q 34)), (2, .int x2), (3, .int x3), (4, .int x4)] → WK p l e s m av below meth c 3 g (wX g q) A (some (.int r)) σ2 H locs (F0 m 7 ls []) := by
  intro n
  induction n with
  | zero => intro x2 x3 x4 σ H locs ls hf; exact absurd hf (by intro z; cases z)
  | succ n ih => intro x2 x3 x4 σ H locs ls hf w hl; exact t_Showman_rulesThatHold_2_7b C  ih hf w hl
set_option maxHeartbeats 4000000 in
set_option maxRecDepth 20000 in
theorem c_Showman_rulesThatHold_2 {l : Launch} {g : GX} {q : Nat → Nat}  {σ : St} {r : Int32} {σ2 : St} (hf : f_Showman_rulesThatHold_2   σ = some (r, σ2)) : KK l y_Showman_rulesThatHold prog_7_method_4_code 5 (some .int) 3 g (wX g q) σ [.ref (q 28), .ref (q 34)] (some (.int r)) (wX g q) σ2 := by
  refine KK_of (plainFor_of_name (by decide)) (Nat.le_of_ble_eq_true rfl) (fun p e s m below meth c A ls C w hl => ?_)
  have hl : lv_has ls 5 [(0, .ref (q 28)), (1, .ref (q 34))] := hl
  obtain ⟨hx, hb, hml, hown, hts, hK, hA, hZ, hlocks, hr, hN⟩ := id C
  unfold f_Showman_rulesThatHold_2 at hf
  refine lv_iconst (v := 0) hx hb d_Showman_rulesThatHold_0 (by decide) ?_
  refine lv_istore_n (lv' := [(2, .int 0), (0, .ref (q 28)), (1, .ref (q 34))]) hx hb d_Showman_rulesThatHold_1 rfl hl (by decide) rfl (fun ls hl => ?_)
  refine lv_iconst (v := 0) hx hb d_Showman_rulesThatHold_2 (by decide) ?_
  refine lv_istore_n (lv' := [(3, .int 0), (2, .int 0), (0, .ref (q 28)), (1, .ref (q 34))]) hx hb d_Showman_rulesThatHold_3 rfl hl (by decide) rfl (fun ls hl => ?_)
  refine lv_iconst (v := 0) hx hb d_Showman_rulesThatHold_4 (by decide) ?_
  refine lv_istore (lv' := [(4, .int 0), (3, .int 0), (2, .int 0), (0, .ref (q 28)), (1, .ref (q 34))]) hx hb d_Showman_rulesThatHold_5 hl (by decide) rfl (fun ls hl => ?_)
  exact t_Showman_rulesThatHold_2_7 C  FU 0 0 0 σ _ _ _ hf w (lv_sub hl [3, 4, 2, 1, 0] rfl)
