variable {p : Program} {l : Launch} {e : Env} {s : State} {m : MethodId} {av : Array Value} {below : List Frame} {meth : Method} {c : Code} {g : GX} {q : Nat → Nat} {A : Nat → Prop}
theorem d_M_isKept_0 : decode prog_13_method_80_code 0 = .ok (.aload_n 0, 1) := by decide +kernel
theorem d_M_isKept_1 : decode prog_13_method_80_code 1 = .ok (.getfield 136, 3) := by decide +kernel
theorem d_M_isKept_4 : decode prog_13_method_80_code 4 = .ok (.bipush 6, 2) := by decide +kernel
theorem d_M_isKept_6 : decode prog_13_method_80_code 6 = .ok (.iaload, 1) := by decide +kernel
theorem d_M_isKept_7 : decode prog_13_method_80_code 7 = .ok (.bipush 60, 2) := by decide +kernel
theorem d_M_isKept_9 : decode prog_13_method_80_code 9 = .ok (.if_icmp .ne 35, 3) := by decide +kernel
theorem d_M_isKept_12 : decode prog_13_method_80_code 12 = .ok (.iconst 0, 1) := by decide +kernel
theorem d_M_isKept_13 : decode prog_13_method_80_code 13 = .ok (.istore_n 3, 1) := by decide +kernel
theorem d_M_isKept_14 : decode prog_13_method_80_code 14 = .ok (.iload_n 3, 1) := by decide +kernel
theorem d_M_isKept_15 : decode prog_13_method_80_code 15 = .ok (.sipush 295, 3) := by decide +kernel
theorem d_M_isKept_18 : decode prog_13_method_80_code 18 = .ok (.if_icmp .ge 23, 3) := by decide +kernel
theorem d_M_isKept_21 : decode prog_13_method_80_code 21 = .ok (.aload_n 0, 1) := by decide +kernel
theorem d_M_isKept_22 : decode prog_13_method_80_code 22 = .ok (.getfield 139, 3) := by decide +kernel
theorem d_M_isKept_25 : decode prog_13_method_80_code 25 = .ok (.iload_n 3, 1) := by decide +kernel
theorem d_M_isKept_26 : decode prog_13_method_80_code 26 = .ok (.aload_n 0, 1) := by decide +kernel
theorem d_M_isKept_27 : decode prog_13_method_80_code 27 = .ok (.getfield 139, 3) := by decide +kernel
theorem d_M_isKept_30 : decode prog_13_method_80_code 30 = .ok (.iload_n 3, 1) := by decide +kernel
theorem d_M_isKept_31 : decode prog_13_method_80_code 31 = .ok (.iconst 5, 1) := by decide +kernel
theorem d_M_isKept_32 : decode prog_13_method_80_code 32 = .ok (.iadd, 1) := by decide +kernel
theorem d_M_isKept_33 : decode prog_13_method_80_code 33 = .ok (.iaload, 1) := by decide +kernel
theorem d_M_isKept_34 : decode prog_13_method_80_code 34 = .ok (.iastore, 1) := by decide +kernel
theorem d_M_isKept_35 : decode prog_13_method_80_code 35 = .ok (.iinc 3 1, 3) := by decide +kernel
theorem d_M_isKept_38 : decode prog_13_method_80_code 38 = .ok (.goto (-24), 3) := by decide +kernel
theorem d_M_isKept_41 : decode prog_13_method_80_code 41 = .ok (.goto 14, 3) := by decide +kernel
theorem d_M_isKept_44 : decode prog_13_method_80_code 44 = .ok (.aload_n 0, 1) := by decide +kernel
theorem d_M_isKept_45 : decode prog_13_method_80_code 45 = .ok (.getfield 136, 3) := by decide +kernel
theorem d_M_isKept_48 : decode prog_13_method_80_code 48 = .ok (.bipush 6, 2) := by decide +kernel
theorem d_M_isKept_50 : decode prog_13_method_80_code 50 = .ok (.dup2, 1) := by decide +kernel
theorem d_M_isKept_51 : decode prog_13_method_80_code 51 = .ok (.iaload, 1) := by decide +kernel
theorem d_M_isKept_52 : decode prog_13_method_80_code 52 = .ok (.iconst 1, 1) := by decide +kernel
theorem d_M_isKept_53 : decode prog_13_method_80_code 53 = .ok (.iadd, 1) := by decide +kernel
theorem d_M_isKept_54 : decode prog_13_method_80_code 54 = .ok (.iastore, 1) := by decide +kernel
theorem d_M_isKept_55 : decode prog_13_method_80_code 55 = .ok (.iconst 5, 1) := by decide +kernel
theorem d_M_isKept_56 : decode prog_13_method_80_code 56 = .ok (.aload_n 0, 1) := by decide +kernel
theorem d_M_isKept_57 : decode prog_13_method_80_code 57 = .ok (.getfield 136, 3) := by decide +kernel
theorem d_M_isKept_60 : decode prog_13_method_80_code 60 = .ok (.bipush 6, 2) := by decide +kernel
theorem d_M_isKept_62 : decode prog_13_method_80_code 62 = .ok (.iaload, 1) := by decide +kernel
theorem d_M_isKept_63 : decode prog_13_method_80_code 63 = .ok (.imul, 1) := by decide +kernel
theorem d_M_isKept_64 : decode prog_13_method_80_code 64 = .ok (.iconst 5, 1) := by decide +kernel
theorem d_M_isKept_65 : decode prog_13_method_80_code 65 = .ok (.isub, 1) := by decide +kernel
theorem d_M_isKept_66 : decode prog_13_method_80_code 66 = .ok (.istore_n 3, 1) := by decide +kernel
theorem d_M_isKept_67 : decode prog_13_method_80_code 67 = .ok (.aload_n 0, 1) := by decide +kernel
theorem d_M_isKept_68 : decode prog_13_method_80_code 68 = .ok (.getfield 139, 3) := by decide +kernel
theorem d_M_isKept_71 : decode prog_13_method_80_code 71 = .ok (.iload_n 3, 1) := by decide +kernel
theorem d_M_isKept_72 : decode prog_13_method_80_code 72 = .ok (.aload_n 0, 1) := by decide +kernel
theorem d_M_isKept_73 : decode prog_13_method_80_code 73 = .ok (.getfield 136, 3) := by decide +kernel
theorem d_M_isKept_76 : decode prog_13_method_80_code 76 = .ok (.iconst 0, 1) := by decide +kernel
theorem d_M_isKept_77 : decode prog_13_method_80_code 77 = .ok (.iaload, 1) := by decide +kernel
theorem d_M_isKept_78 : decode prog_13_method_80_code 78 = .ok (.iastore, 1) := by decide +kernel
theorem d_M_isKept_79 : decode prog_13_method_80_code 79 = .ok (.aload_n 0, 1) := by decide +kernel
theorem d_M_isKept_80 : decode prog_13_method_80_code 80 = .ok (.getfield 139, 3) := by decide +kernel
theorem d_M_isKept_83 : decode prog_13_method_80_code 83 = .ok (.iload_n 3, 1) := by decide +kernel
theorem d_M_isKept_84 : decode prog_13_method_80_code 84 = .ok (.iconst 1, 1) := by decide +kernel
theorem d_M_isKept_85 : decode prog_13_method_80_code 85 = .ok (.iadd, 1) := by decide +kernel
theorem d_M_isKept_86 : decode prog_13_method_80_code 86 = .ok (.iload_n 1, 1) := by decide +kernel
theorem d_M_isKept_87 : decode prog_13_method_80_code 87 = .ok (.iastore, 1) := by decide +kernel
theorem d_M_isKept_88 : decode prog_13_method_80_code 88 = .ok (.aload_n 0, 1) := by decide +kernel
theorem d_M_isKept_89 : decode prog_13_method_80_code 89 = .ok (.getfield 139, 3) := by decide +kernel
theorem d_M_isKept_92 : decode prog_13_method_80_code 92 = .ok (.iload_n 3, 1) := by decide +kernel
theorem d_M_isKept_93 : decode prog_13_method_80_code 93 = .ok (.iconst 2, 1) := by decide +kernel
theorem d_M_isKept_94 : decode prog_13_method_80_code 94 = .ok (.iadd, 1) := by decide +kernel
theorem d_M_isKept_95 : decode prog_13_method_80_code 95 = .ok (.iload_n 2, 1) := by decide +kernel
theorem d_M_isKept_96 : decode prog_13_method_80_code 96 = .ok (.iastore, 1) := by decide +kernel
theorem d_M_isKept_97 : decode prog_13_method_80_code 97 = .ok (.aload_n 0, 1) := by decide +kernel
theorem d_M_isKept_98 : decode prog_13_method_80_code 98 = .ok (.getfield 139, 3) := by decide +kernel
theorem d_M_isKept_101 : decode prog_13_method_80_code 101 = .ok (.iload_n 3, 1) := by decide +kernel
theorem d_M_isKept_102 : decode prog_13_method_80_code 102 = .ok (.iconst 3, 1) := by decide +kernel
theorem d_M_isKept_103 : decode prog_13_method_80_code 103 = .ok (.iadd, 1) := by decide +kernel
theorem d_M_isKept_104 : decode prog_13_method_80_code 104 = .ok (.aload_n 0, 1) := by decide +kernel
theorem d_M_isKept_105 : decode prog_13_method_80_code 105 = .ok (.getfield 399, 3) := by decide +kernel
theorem d_M_isKept_108 : decode prog_13_method_80_code 108 = .ok (.ifCond .eq 7, 3) := by decide +kernel
theorem d_M_isKept_111 : decode prog_13_method_80_code 111 = .ok (.iconst 1, 1) := by decide +kernel
theorem d_M_isKept_112 : decode prog_13_method_80_code 112 = .ok (.goto 4, 3) := by decide +kernel
theorem d_M_isKept_115 : decode prog_13_method_80_code 115 = .ok (.iconst 0, 1) := by decide +kernel
theorem d_M_isKept_116 : decode prog_13_method_80_code 116 = .ok (.iastore, 1) := by decide +kernel
theorem d_M_isKept_117 : decode prog_13_method_80_code 117 = .ok (.aload_n 0, 1) := by decide +kernel
theorem d_M_isKept_118 : decode prog_13_method_80_code 118 = .ok (.getfield 139, 3) := by decide +kernel
theorem d_M_isKept_121 : decode prog_13_method_80_code 121 = .ok (.iload_n 3, 1) := by decide +kernel
theorem d_M_isKept_122 : decode prog_13_method_80_code 122 = .ok (.iconst 4, 1) := by decide +kernel
theorem d_M_isKept_123 : decode prog_13_method_80_code 123 = .ok (.iadd, 1) := by decide +kernel
theorem d_M_isKept_124 : decode prog_13_method_80_code 124 = .ok (.aload_n 0, 1) := by decide +kernel
theorem d_M_isKept_125 : decode prog_13_method_80_code 125 = .ok (.getfield 367, 3) := by decide +kernel
theorem d_M_isKept_128 : decode prog_13_method_80_code 128 = .ok (.iastore, 1) := by decide +kernel
theorem d_M_isKept_129 : decode prog_13_method_80_code 129 = .ok (.return_, 1) := by decide +kernel
theorem d_M_night_0 : decode prog_13_method_83_code 0 = .ok (.aload_n 0, 1) := by decide +kernel
theorem d_M_night_1 : decode prog_13_method_83_code 1 = .ok (.getfield 136, 3) := by decide +kernel
theorem d_M_night_4 : decode prog_13_method_83_code 4 = .ok (.iconst 0, 1) := by decide +kernel
theorem d_M_night_5 : decode prog_13_method_83_code 5 = .ok (.iaload, 1) := by decide +kernel
theorem d_M_night_6 : decode prog_13_method_83_code 6 = .ok (.sipush 999, 3) := by decide +kernel
theorem d_M_night_9 : decode prog_13_method_83_code 9 = .ok (.if_icmp .ne 15, 3) := by decide +kernel
theorem d_M_night_12 : decode prog_13_method_83_code 12 = .ok (.aload_n 0, 1) := by decide +kernel
theorem d_M_night_13 : decode prog_13_method_83_code 13 = .ok (.getfield 17, 3) := by decide +kernel
theorem d_M_night_16 : decode prog_13_method_83_code 16 = .ok (.iconst 2, 1) := by decide +kernel
theorem d_M_night_17 : decode prog_13_method_83_code 17 = .ok (.dup2, 1) := by decide +kernel
theorem d_M_night_18 : decode prog_13_method_83_code 18 = .ok (.iaload, 1) := by decide +kernel
theorem d_M_night_19 : decode prog_13_method_83_code 19 = .ok (.iconst 1, 1) := by decide +kernel
theorem d_M_night_20 : decode prog_13_method_83_code 20 = .ok (.iadd, 1) := by decide +kernel
theorem d_M_night_21 : decode prog_13_method_83_code 21 = .ok (.iastore, 1) := by decide +kernel
theorem d_M_night_22 : decode prog_13_method_83_code 22 = .ok (.iconst (-1), 1) := by decide +kernel
theorem d_M_night_23 : decode prog_13_method_83_code 23 = .ok (.ireturn, 1) := by decide +kernel
theorem d_M_night_24 : decode prog_13_method_83_code 24 = .ok (.aload_n 0, 1) := by decide +kernel
theorem d_M_night_25 : decode prog_13_method_83_code 25 = .ok (.invokevirtual 488, 3) := by decide +kernel
theorem d_M_night_28 : decode prog_13_method_83_code 28 = .ok (.aload_n 0, 1) := by decide +kernel
theorem d_M_night_29 : decode prog_13_method_83_code 29 = .ok (.getfield 136, 3) := by decide +kernel
theorem d_M_night_32 : decode prog_13_method_83_code 32 = .ok (.iconst 0, 1) := by decide +kernel
theorem d_M_night_33 : decode prog_13_method_83_code 33 = .ok (.dup2, 1) := by decide +kernel
theorem d_M_night_34 : decode prog_13_method_83_code 34 = .ok (.iaload, 1) := by decide +kernel
theorem d_M_night_35 : decode prog_13_method_83_code 35 = .ok (.iconst 1, 1) := by decide +kernel
theorem d_M_night_36 : decode prog_13_method_83_code 36 = .ok (.iadd, 1) := by decide +kernel
theorem d_M_night_37 : decode prog_13_method_83_code 37 = .ok (.iastore, 1) := by decide +kernel
theorem d_M_night_38 : decode prog_13_method_83_code 38 = .ok (.aload_n 0, 1) := by decide +kernel
theorem d_M_night_39 : decode prog_13_method_83_code 39 = .ok (.aload_n 0, 1) := by decide +kernel
theorem d_M_night_40 : decode prog_13_method_83_code 40 = .ok (.getfield 136, 3) := by decide +kernel
theorem d_M_night_43 : decode prog_13_method_83_code 43 = .ok (.iconst 2, 1) := by decide +kernel
theorem d_M_night_44 : decode prog_13_method_83_code 44 = .ok (.iaload, 1) := by decide +kernel
theorem d_M_night_45 : decode prog_13_method_83_code 45 = .ok (.putfield 390, 3) := by decide +kernel
theorem d_M_night_48 : decode prog_13_method_83_code 48 = .ok (.aload_n 0, 1) := by decide +kernel
theorem d_M_night_49 : decode prog_13_method_83_code 49 = .ok (.aload_n 0, 1) := by decide +kernel
theorem d_M_night_50 : decode prog_13_method_83_code 50 = .ok (.getfield 136, 3) := by decide +kernel
theorem d_M_night_53 : decode prog_13_method_83_code 53 = .ok (.iconst 3, 1) := by decide +kernel
theorem d_M_night_54 : decode prog_13_method_83_code 54 = .ok (.iaload, 1) := by decide +kernel
theorem d_M_night_55 : decode prog_13_method_83_code 55 = .ok (.putfield 378, 3) := by decide +kernel
theorem d_M_night_58 : decode prog_13_method_83_code 58 = .ok (.aload_n 0, 1) := by decide +kernel
theorem d_M_night_59 : decode prog_13_method_83_code 59 = .ok (.aload_n 0, 1) := by decide +kernel
theorem d_M_night_60 : decode prog_13_method_83_code 60 = .ok (.iconst 4, 1) := by decide +kernel
theorem d_M_night_61 : decode prog_13_method_83_code 61 = .ok (.invokevirtual 374, 3) := by decide +kernel
theorem d_M_night_64 : decode prog_13_method_83_code 64 = .ok (.putfield 381, 3) := by decide +kernel
theorem d_M_night_67 : decode prog_13_method_83_code 67 = .ok (.aload_n 0, 1) := by decide +kernel
theorem d_M_night_68 : decode prog_13_method_83_code 68 = .ok (.iconst 0, 1) := by decide +kernel
theorem d_M_night_69 : decode prog_13_method_83_code 69 = .ok (.putfield 384, 3) := by decide +kernel
theorem d_M_night_72 : decode prog_13_method_83_code 72 = .ok (.iconst 0, 1) := by decide +kernel
theorem d_M_night_73 : decode prog_13_method_83_code 73 = .ok (.istore_n 1, 1) := by decide +kernel
theorem d_M_night_74 : decode prog_13_method_83_code 74 = .ok (.iconst 0, 1) := by decide +kernel
theorem d_M_night_75 : decode prog_13_method_83_code 75 = .ok (.istore_n 2, 1) := by decide +kernel
theorem d_M_night_76 : decode prog_13_method_83_code 76 = .ok (.iload_n 2, 1) := by decide +kernel
theorem d_M_night_77 : decode prog_13_method_83_code 77 = .ok (.aload_n 0, 1) := by decide +kernel
theorem d_M_night_78 : decode prog_13_method_83_code 78 = .ok (.invokevirtual 352, 3) := by decide +kernel
theorem d_M_night_81 : decode prog_13_method_83_code 81 = .ok (.if_icmp .ge 59, 3) := by decide +kernel
theorem d_M_night_84 : decode prog_13_method_83_code 84 = .ok (.aload_n 0, 1) := by decide +kernel
theorem d_M_night_85 : decode prog_13_method_83_code 85 = .ok (.iload_n 2, 1) := by decide +kernel
theorem d_M_night_86 : decode prog_13_method_83_code 86 = .ok (.invokevirtual 447, 3) := by decide +kernel
theorem d_M_night_89 : decode prog_13_method_83_code 89 = .ok (.aload_n 0, 1) := by decide +kernel
theorem d_M_night_90 : decode prog_13_method_83_code 90 = .ok (.iload_n 2, 1) := by decide +kernel
theorem d_M_night_91 : decode prog_13_method_83_code 91 = .ok (.invokevirtual 450, 3) := by decide +kernel
theorem d_M_night_94 : decode prog_13_method_83_code 94 = .ok (.ifCond .eq 40, 3) := by decide +kernel
theorem d_M_night_97 : decode prog_13_method_83_code 97 = .ok (.aload_n 0, 1) := by decide +kernel
theorem d_M_night_98 : decode prog_13_method_83_code 98 = .ok (.aload_n 0, 1) := by decide +kernel
theorem d_M_night_99 : decode prog_13_method_83_code 99 = .ok (.iload_n 2, 1) := by decide +kernel
theorem d_M_night_100 : decode prog_13_method_83_code 100 = .ok (.iconst 1, 1) := by decide +kernel
theorem d_M_night_101 : decode prog_13_method_83_code 101 = .ok (.invokevirtual 358, 3) := by decide +kernel
theorem d_M_night_104 : decode prog_13_method_83_code 104 = .ok (.iconst 1, 1) := by decide +kernel
theorem d_M_night_105 : decode prog_13_method_83_code 105 = .ok (.iadd, 1) := by decide +kernel
theorem d_M_night_106 : decode prog_13_method_83_code 106 = .ok (.invokevirtual 491, 3) := by decide +kernel
theorem d_M_night_109 : decode prog_13_method_83_code 109 = .ok (.istore_n 3, 1) := by decide +kernel
theorem d_M_night_110 : decode prog_13_method_83_code 110 = .ok (.aload_n 0, 1) := by decide +kernel
theorem d_M_night_111 : decode prog_13_method_83_code 111 = .ok (.iload_n 2, 1) := by decide +kernel
theorem d_M_night_112 : decode prog_13_method_83_code 112 = .ok (.iload_n 3, 1) := by decide +kernel
theorem d_M_night_113 : decode prog_13_method_83_code 113 = .ok (.invokevirtual 453, 3) := by decide +kernel
theorem d_M_night_116 : decode prog_13_method_83_code 116 = .ok (.aload_n 0, 1) := by decide +kernel
theorem d_M_night_117 : decode prog_13_method_83_code 117 = .ok (.iload_n 2, 1) := by decide +kernel
theorem d_M_night_118 : decode prog_13_method_83_code 118 = .ok (.iload_n 3, 1) := by decide +kernel
theorem d_M_night_119 : decode prog_13_method_83_code 119 = .ok (.invokevirtual 494, 3) := by decide +kernel
theorem d_M_night_122 : decode prog_13_method_83_code 122 = .ok (.iload_n 1, 1) := by decide +kernel
theorem d_M_night_123 : decode prog_13_method_83_code 123 = .ok (.aload_n 0, 1) := by decide +kernel
theorem d_M_night_124 : decode prog_13_method_83_code 124 = .ok (.getfield 136, 3) := by decide +kernel
theorem d_M_night_127 : decode prog_13_method_83_code 127 = .ok (.iconst 5, 1) := by decide +kernel
theorem d_M_night_128 : decode prog_13_method_83_code 128 = .ok (.iaload, 1) := by decide +kernel
theorem d_M_night_129 : decode prog_13_method_83_code 129 = .ok (.iadd, 1) := by decide +kernel
theorem d_M_night_130 : decode prog_13_method_83_code 130 = .ok (.istore_n 1, 1) := by decide +kernel
theorem d_M_night_131 : decode prog_13_method_83_code 131 = .ok (.goto (-42), 3) := by decide +kernel
theorem d_M_night_134 : decode prog_13_method_83_code 134 = .ok (.iinc 2 1, 3) := by decide +kernel
theorem d_M_night_137 : decode prog_13_method_83_code 137 = .ok (.goto (-61), 3) := by decide +kernel
theorem d_M_night_140 : decode prog_13_method_83_code 140 = .ok (.aload_n 0, 1) := by decide +kernel
theorem d_M_night_141 : decode prog_13_method_83_code 141 = .ok (.getfield 136, 3) := by decide +kernel
theorem d_M_night_144 : decode prog_13_method_83_code 144 = .ok (.iconst 1, 1) := by decide +kernel
theorem d_M_night_145 : decode prog_13_method_83_code 145 = .ok (.dup2, 1) := by decide +kernel
theorem d_M_night_146 : decode prog_13_method_83_code 146 = .ok (.iaload, 1) := by decide +kernel
theorem d_M_night_147 : decode prog_13_method_83_code 147 = .ok (.iload_n 1, 1) := by decide +kernel
theorem d_M_night_148 : decode prog_13_method_83_code 148 = .ok (.iadd, 1) := by decide +kernel
theorem d_M_night_149 : decode prog_13_method_83_code 149 = .ok (.iastore, 1) := by decide +kernel
theorem d_M_night_150 : decode prog_13_method_83_code 150 = .ok (.iload_n 1, 1) := by decide +kernel
theorem d_M_night_151 : decode prog_13_method_83_code 151 = .ok (.ireturn, 1) := by decide +kernel
theorem d_M_rule_0 : decode prog_13_method_84_code 0 = .ok (.iload_n 1, 1) := by decide +kernel
theorem d_M_rule_1 : decode prog_13_method_84_code 1 = .ok (.i2l, 1) := by decide +kernel
theorem d_M_rule_2 : decode prog_13_method_84_code 2 = .ok (.lconst 0, 1) := by decide +kernel
theorem d_M_rule_3 : decode prog_13_method_84_code 3 = .ok (.aload_n 0, 1) := by decide +kernel
theorem d_M_rule_4 : decode prog_13_method_84_code 4 = .ok (.invokevirtual 387, 3) := by decide +kernel
theorem d_M_rule_7 : decode prog_13_method_84_code 7 = .ok (.iconst 1, 1) := by decide +kernel
theorem d_M_rule_8 : decode prog_13_method_84_code 8 = .ok (.isub, 1) := by decide +kernel
theorem d_M_rule_9 : decode prog_13_method_84_code 9 = .ok (.i2l, 1) := by decide +kernel
theorem d_M_rule_10 : decode prog_13_method_84_code 10 = .ok (.invokestatic 198, 3) := by decide +kernel
theorem d_M_rule_13 : decode prog_13_method_84_code 13 = .ok (.ifCond .eq 26, 3) := by decide +kernel
theorem d_M_rule_16 : decode prog_13_method_84_code 16 = .ok (.aload_n 0, 1) := by decide +kernel
theorem d_M_rule_17 : decode prog_13_method_84_code 17 = .ok (.getfield 136, 3) := by decide +kernel
theorem d_M_rule_20 : decode prog_13_method_84_code 20 = .ok (.iconst 2, 1) := by decide +kernel
theorem d_M_rule_21 : decode prog_13_method_84_code 21 = .ok (.iaload, 1) := by decide +kernel
theorem d_M_rule_22 : decode prog_13_method_84_code 22 = .ok (.iload_n 1, 1) := by decide +kernel
theorem d_M_rule_23 : decode prog_13_method_84_code 23 = .ok (.ishr, 1) := by decide +kernel
theorem d_M_rule_24 : decode prog_13_method_84_code 24 = .ok (.iconst 1, 1) := by decide +kernel
theorem d_M_rule_25 : decode prog_13_method_84_code 25 = .ok (.iand, 1) := by decide +kernel
theorem d_M_rule_26 : decode prog_13_method_84_code 26 = .ok (.iconst 1, 1) := by decide +kernel
theorem d_M_rule_27 : decode prog_13_method_84_code 27 = .ok (.if_icmp .ne 7, 3) := by decide +kernel
theorem d_M_rule_30 : decode prog_13_method_84_code 30 = .ok (.iconst 1, 1) := by decide +kernel
theorem d_M_rule_31 : decode prog_13_method_84_code 31 = .ok (.goto 4, 3) := by decide +kernel
theorem d_M_rule_34 : decode prog_13_method_84_code 34 = .ok (.iconst 0, 1) := by decide +kernel
theorem d_M_rule_35 : decode prog_13_method_84_code 35 = .ok (.iload_n 2, 1) := by decide +kernel
theorem d_M_rule_36 : decode prog_13_method_84_code 36 = .ok (.if_icmp .ne 15, 3) := by decide +kernel
theorem d_M_rule_39 : decode prog_13_method_84_code 39 = .ok (.aload_n 0, 1) := by decide +kernel
theorem d_M_rule_40 : decode prog_13_method_84_code 40 = .ok (.getfield 17, 3) := by decide +kernel
theorem d_M_rule_43 : decode prog_13_method_84_code 43 = .ok (.iconst 3, 1) := by decide +kernel
theorem d_M_rule_44 : decode prog_13_method_84_code 44 = .ok (.dup2, 1) := by decide +kernel
theorem d_M_rule_45 : decode prog_13_method_84_code 45 = .ok (.iaload, 1) := by decide +kernel
theorem d_M_rule_46 : decode prog_13_method_84_code 46 = .ok (.iconst 1, 1) := by decide +kernel
theorem d_M_rule_47 : decode prog_13_method_84_code 47 = .ok (.iadd, 1) := by decide +kernel
theorem d_M_rule_48 : decode prog_13_method_84_code 48 = .ok (.iastore, 1) := by decide +kernel
theorem d_M_rule_49 : decode prog_13_method_84_code 49 = .ok (.iconst 0, 1) := by decide +kernel
theorem d_M_rule_50 : decode prog_13_method_84_code 50 = .ok (.ireturn, 1) := by decide +kernel
theorem d_M_rule_51 : decode prog_13_method_84_code 51 = .ok (.aload_n 0, 1) := by decide +kernel
theorem d_M_rule_52 : decode prog_13_method_84_code 52 = .ok (.invokevirtual 488, 3) := by decide +kernel
theorem d_M_rule_55 : decode prog_13_method_84_code 55 = .ok (.aload_n 0, 1) := by decide +kernel
theorem d_M_rule_56 : decode prog_13_method_84_code 56 = .ok (.getfield 136, 3) := by decide +kernel
theorem d_M_rule_59 : decode prog_13_method_84_code 59 = .ok (.iconst 2, 1) := by decide +kernel
theorem d_M_rule_60 : decode prog_13_method_84_code 60 = .ok (.dup2, 1) := by decide +kernel
theorem d_M_rule_61 : decode prog_13_method_84_code 61 = .ok (.iaload, 1) := by decide +kernel
theorem d_M_rule_62 : decode prog_13_method_84_code 62 = .ok (.iconst 1, 1) := by decide +kernel
theorem d_M_rule_63 : decode prog_13_method_84_code 63 = .ok (.iload_n 1, 1) := by decide +kernel
theorem d_M_rule_64 : decode prog_13_method_84_code 64 = .ok (.ishl, 1) := by decide +kernel
theorem d_M_rule_65 : decode prog_13_method_84_code 65 = .ok (.ixor, 1) := by decide +kernel
theorem d_M_rule_66 : decode prog_13_method_84_code 66 = .ok (.iastore, 1) := by decide +kernel
theorem d_M_rule_67 : decode prog_13_method_84_code 67 = .ok (.iconst 1, 1) := by decide +kernel
theorem d_M_rule_68 : decode prog_13_method_84_code 68 = .ok (.ireturn, 1) := by decide +kernel
theorem d_M_set_0 : decode prog_13_method_85_code 0 = .ok (.iload_n 1, 1) := by decide +kernel
theorem d_M_set_1 : decode prog_13_method_85_code 1 = .ok (.ifCond .ne 15, 3) := by decide +kernel
theorem d_M_set_4 : decode prog_13_method_85_code 4 = .ok (.iload_n 2, 1) := by decide +kernel
theorem d_M_set_5 : decode prog_13_method_85_code 5 = .ok (.i2l, 1) := by decide +kernel
theorem d_M_set_6 : decode prog_13_method_85_code 6 = .ok (.lconst 1, 1) := by decide +kernel
theorem d_M_set_7 : decode prog_13_method_85_code 7 = .ok (.ldc2_w 418, 3) := by decide +kernel
theorem d_M_set_10 : decode prog_13_method_85_code 10 = .ok (.invokestatic 198, 3) := by decide +kernel
theorem d_M_set_13 : decode prog_13_method_85_code 13 = .ok (.goto 42, 3) := by decide +kernel
theorem d_M_set_16 : decode prog_13_method_85_code 16 = .ok (.iload_n 1, 1) := by decide +kernel
theorem d_M_set_17 : decode prog_13_method_85_code 17 = .ok (.iconst 1, 1) := by decide +kernel
theorem d_M_set_18 : decode prog_13_method_85_code 18 = .ok (.if_icmp .ne 15, 3) := by decide +kernel
theorem d_M_set_21 : decode prog_13_method_85_code 21 = .ok (.iload_n 2, 1) := by decide +kernel
theorem d_M_set_22 : decode prog_13_method_85_code 22 = .ok (.i2l, 1) := by decide +kernel
theorem d_M_set_23 : decode prog_13_method_85_code 23 = .ok (.lconst 0, 1) := by decide +kernel
theorem d_M_set_24 : decode prog_13_method_85_code 24 = .ok (.ldc2_w 497, 3) := by decide +kernel
theorem d_M_set_27 : decode prog_13_method_85_code 27 = .ok (.invokestatic 198, 3) := by decide +kernel
theorem d_M_set_30 : decode prog_13_method_85_code 30 = .ok (.goto 25, 3) := by decide +kernel
theorem d_M_set_33 : decode prog_13_method_85_code 33 = .ok (.iload_n 1, 1) := by decide +kernel
theorem d_M_set_34 : decode prog_13_method_85_code 34 = .ok (.iconst 2, 1) := by decide +kernel
theorem d_M_set_35 : decode prog_13_method_85_code 35 = .ok (.if_icmp .ne 19, 3) := by decide +kernel
theorem d_M_set_38 : decode prog_13_method_85_code 38 = .ok (.iload_n 2, 1) := by decide +kernel
theorem d_M_set_39 : decode prog_13_method_85_code 39 = .ok (.i2l, 1) := by decide +kernel
theorem d_M_set_40 : decode prog_13_method_85_code 40 = .ok (.lconst 1, 1) := by decide +kernel
theorem d_M_set_41 : decode prog_13_method_85_code 41 = .ok (.ldc2_w 422, 3) := by decide +kernel
theorem d_M_set_44 : decode prog_13_method_85_code 44 = .ok (.invokestatic 198, 3) := by decide +kernel
theorem d_M_set_47 : decode prog_13_method_85_code 47 = .ok (.ifCond .eq 7, 3) := by decide +kernel
theorem d_M_set_50 : decode prog_13_method_85_code 50 = .ok (.iconst 1, 1) := by decide +kernel
theorem d_M_set_51 : decode prog_13_method_85_code 51 = .ok (.goto 4, 3) := by decide +kernel
theorem d_M_set_54 : decode prog_13_method_85_code 54 = .ok (.iconst 0, 1) := by decide +kernel
theorem d_M_set_55 : decode prog_13_method_85_code 55 = .ok (.istore_n 3, 1) := by decide +kernel
theorem d_M_set_56 : decode prog_13_method_85_code 56 = .ok (.iload_n 3, 1) := by decide +kernel
theorem d_M_set_57 : decode prog_13_method_85_code 57 = .ok (.ifCond .ne 15, 3) := by decide +kernel
theorem d_M_set_60 : decode prog_13_method_85_code 60 = .ok (.aload_n 0, 1) := by decide +kernel
theorem d_M_set_61 : decode prog_13_method_85_code 61 = .ok (.getfield 17, 3) := by decide +kernel
theorem d_M_set_64 : decode prog_13_method_85_code 64 = .ok (.iconst 3, 1) := by decide +kernel
theorem d_M_set_65 : decode prog_13_method_85_code 65 = .ok (.dup2, 1) := by decide +kernel
theorem d_M_set_66 : decode prog_13_method_85_code 66 = .ok (.iaload, 1) := by decide +kernel
theorem d_M_set_67 : decode prog_13_method_85_code 67 = .ok (.iconst 1, 1) := by decide +kernel
theorem d_M_set_68 : decode prog_13_method_85_code 68 = .ok (.iadd, 1) := by decide +kernel
theorem d_M_set_69 : decode prog_13_method_85_code 69 = .ok (.iastore, 1) := by decide +kernel
theorem d_M_set_70 : decode prog_13_method_85_code 70 = .ok (.iconst (-1), 1) := by decide +kernel
theorem d_M_set_71 : decode prog_13_method_85_code 71 = .ok (.ireturn, 1) := by decide +kernel
theorem d_M_set_72 : decode prog_13_method_85_code 72 = .ok (.aload_n 0, 1) := by decide +kernel
theorem d_M_set_73 : decode prog_13_method_85_code 73 = .ok (.invokevirtual 488, 3) := by decide +kernel
theorem d_M_set_76 : decode prog_13_method_85_code 76 = .ok (.aload_n 0, 1) := by decide +kernel
theorem d_M_set_77 : decode prog_13_method_85_code 77 = .ok (.getfield 136, 3) := by decide +kernel
theorem d_M_set_80 : decode prog_13_method_85_code 80 = .ok (.iconst 3, 1) := by decide +kernel
theorem d_M_set_81 : decode prog_13_method_85_code 81 = .ok (.iload_n 1, 1) := by decide +kernel
theorem d_M_set_82 : decode prog_13_method_85_code 82 = .ok (.iadd, 1) := by decide +kernel
theorem d_M_set_83 : decode prog_13_method_85_code 83 = .ok (.iaload, 1) := by decide +kernel
theorem d_M_set_84 : decode prog_13_method_85_code 84 = .ok (.istore 4, 2) := by decide +kernel
theorem d_M_set_86 : decode prog_13_method_85_code 86 = .ok (.aload_n 0, 1) := by decide +kernel
theorem d_M_set_87 : decode prog_13_method_85_code 87 = .ok (.getfield 136, 3) := by decide +kernel
theorem d_M_set_90 : decode prog_13_method_85_code 90 = .ok (.iconst 3, 1) := by decide +kernel
theorem d_M_set_91 : decode prog_13_method_85_code 91 = .ok (.iload_n 1, 1) := by decide +kernel
theorem d_M_set_92 : decode prog_13_method_85_code 92 = .ok (.iadd, 1) := by decide +kernel
theorem d_M_set_93 : decode prog_13_method_85_code 93 = .ok (.iload_n 2, 1) := by decide +kernel
theorem d_M_set_94 : decode prog_13_method_85_code 94 = .ok (.iastore, 1) := by decide +kernel
theorem d_M_set_95 : decode prog_13_method_85_code 95 = .ok (.iload 4, 2) := by decide +kernel
theorem d_M_set_97 : decode prog_13_method_85_code 97 = .ok (.ireturn, 1) := by decide +kernel
theorem d_M_undo_0 : decode prog_13_method_79_code 0 = .ok (.aload_n 0, 1) := by decide +kernel
theorem d_M_undo_1 : decode prog_13_method_79_code 1 = .ok (.getfield 278, 3) := by decide +kernel
theorem d_M_undo_4 : decode prog_13_method_79_code 4 = .ok (.ifCond .ne 15, 3) := by decide +kernel
theorem d_M_undo_7 : decode prog_13_method_79_code 7 = .ok (.aload_n 0, 1) := by decide +kernel
theorem d_M_undo_8 : decode prog_13_method_79_code 8 = .ok (.getfield 17, 3) := by decide +kernel
theorem d_M_undo_11 : decode prog_13_method_79_code 11 = .ok (.iconst 4, 1) := by decide +kernel
theorem d_M_undo_12 : decode prog_13_method_79_code 12 = .ok (.dup2, 1) := by decide +kernel
theorem d_M_undo_13 : decode prog_13_method_79_code 13 = .ok (.iaload, 1) := by decide +kernel
theorem d_M_undo_14 : decode prog_13_method_79_code 14 = .ok (.iconst 1, 1) := by decide +kernel
theorem d_M_undo_15 : decode prog_13_method_79_code 15 = .ok (.iadd, 1) := by decide +kernel
theorem d_M_undo_16 : decode prog_13_method_79_code 16 = .ok (.iastore, 1) := by decide +kernel
theorem d_M_undo_17 : decode prog_13_method_79_code 17 = .ok (.iconst 0, 1) := by decide +kernel
theorem d_M_undo_18 : decode prog_13_method_79_code 18 = .ok (.ireturn, 1) := by decide +kernel
theorem d_M_undo_19 : decode prog_13_method_79_code 19 = .ok (.iconst 0, 1) := by decide +kernel
theorem d_M_undo_20 : decode prog_13_method_79_code 20 = .ok (.istore_n 1, 1) := by decide +kernel
theorem d_M_undo_21 : decode prog_13_method_79_code 21 = .ok (.iload_n 1, 1) := by decide +kernel
theorem d_M_undo_22 : decode prog_13_method_79_code 22 = .ok (.bipush 7, 2) := by decide +kernel
theorem d_M_undo_24 : decode prog_13_method_79_code 24 = .ok (.if_icmp .ge 30, 3) := by decide +kernel
theorem d_M_undo_27 : decode prog_13_method_79_code 27 = .ok (.aload_n 0, 1) := by decide +kernel
theorem d_M_undo_28 : decode prog_13_method_79_code 28 = .ok (.getfield 136, 3) := by decide +kernel
theorem d_M_undo_31 : decode prog_13_method_79_code 31 = .ok (.iload_n 1, 1) := by decide +kernel
theorem d_M_undo_32 : decode prog_13_method_79_code 32 = .ok (.aload_n 0, 1) := by decide +kernel
theorem d_M_undo_33 : decode prog_13_method_79_code 33 = .ok (.getfield 142, 3) := by decide +kernel
theorem d_M_undo_36 : decode prog_13_method_79_code 36 = .ok (.sipush 307, 3) := by decide +kernel
theorem d_M_undo_39 : decode prog_13_method_79_code 39 = .ok (.aload_n 0, 1) := by decide +kernel
theorem d_M_undo_40 : decode prog_13_method_79_code 40 = .ok (.getfield 477, 3) := by decide +kernel
theorem d_M_undo_43 : decode prog_13_method_79_code 43 = .ok (.imul, 1) := by decide +kernel
theorem d_M_undo_44 : decode prog_13_method_79_code 44 = .ok (.iload_n 1, 1) := by decide +kernel
theorem d_M_undo_45 : decode prog_13_method_79_code 45 = .ok (.iadd, 1) := by decide +kernel
theorem d_M_undo_46 : decode prog_13_method_79_code 46 = .ok (.iaload, 1) := by decide +kernel
theorem d_M_undo_47 : decode prog_13_method_79_code 47 = .ok (.iastore, 1) := by decide +kernel
theorem d_M_undo_48 : decode prog_13_method_79_code 48 = .ok (.iinc 1 1, 3) := by decide +kernel
theorem d_M_undo_51 : decode prog_13_method_79_code 51 = .ok (.goto (-30), 3) := by decide +kernel
theorem d_M_undo_54 : decode prog_13_method_79_code 54 = .ok (.iconst 0, 1) := by decide +kernel
theorem d_M_undo_55 : decode prog_13_method_79_code 55 = .ok (.istore_n 1, 1) := by decide +kernel
theorem d_M_undo_56 : decode prog_13_method_79_code 56 = .ok (.iload_n 1, 1) := by decide +kernel
theorem d_M_undo_57 : decode prog_13_method_79_code 57 = .ok (.sipush 300, 3) := by decide +kernel
theorem d_M_undo_60 : decode prog_13_method_79_code 60 = .ok (.if_icmp .ge 33, 3) := by decide +kernel
theorem d_M_undo_63 : decode prog_13_method_79_code 63 = .ok (.aload_n 0, 1) := by decide +kernel
theorem d_M_undo_64 : decode prog_13_method_79_code 64 = .ok (.getfield 139, 3) := by decide +kernel
theorem d_M_undo_67 : decode prog_13_method_79_code 67 = .ok (.iload_n 1, 1) := by decide +kernel
theorem d_M_undo_68 : decode prog_13_method_79_code 68 = .ok (.aload_n 0, 1) := by decide +kernel
theorem d_M_undo_69 : decode prog_13_method_79_code 69 = .ok (.getfield 142, 3) := by decide +kernel
theorem d_M_undo_72 : decode prog_13_method_79_code 72 = .ok (.sipush 307, 3) := by decide +kernel
theorem d_M_undo_75 : decode prog_13_method_79_code 75 = .ok (.aload_n 0, 1) := by decide +kernel
theorem d_M_undo_76 : decode prog_13_method_79_code 76 = .ok (.getfield 477, 3) := by decide +kernel
theorem d_M_undo_79 : decode prog_13_method_79_code 79 = .ok (.imul, 1) := by decide +kernel
theorem d_M_undo_80 : decode prog_13_method_79_code 80 = .ok (.bipush 7, 2) := by decide +kernel
theorem d_M_undo_82 : decode prog_13_method_79_code 82 = .ok (.iadd, 1) := by decide +kernel
theorem d_M_undo_83 : decode prog_13_method_79_code 83 = .ok (.iload_n 1, 1) := by decide +kernel
theorem d_M_undo_84 : decode prog_13_method_79_code 84 = .ok (.iadd, 1) := by decide +kernel
theorem d_M_undo_85 : decode prog_13_method_79_code 85 = .ok (.iaload, 1) := by decide +kernel
theorem d_M_undo_86 : decode prog_13_method_79_code 86 = .ok (.iastore, 1) := by decide +kernel
theorem d_M_undo_87 : decode prog_13_method_79_code 87 = .ok (.iinc 1 1, 3) := by decide +kernel
theorem d_M_undo_90 : decode prog_13_method_79_code 90 = .ok (.goto (-34), 3) := by decide +kernel
theorem d_M_undo_93 : decode prog_13_method_79_code 93 = .ok (.aload_n 0, 1) := by decide +kernel
theorem d_M_undo_94 : decode prog_13_method_79_code 94 = .ok (.aload_n 0, 1) := by decide +kernel
theorem d_M_undo_95 : decode prog_13_method_79_code 95 = .ok (.getfield 477, 3) := by decide +kernel
theorem d_M_undo_98 : decode prog_13_method_79_code 98 = .ok (.bipush 20, 2) := by decide +kernel
theorem d_M_undo_100 : decode prog_13_method_79_code 100 = .ok (.iadd, 1) := by decide +kernel
theorem d_M_undo_101 : decode prog_13_method_79_code 101 = .ok (.iconst 1, 1) := by decide +kernel
theorem d_M_undo_102 : decode prog_13_method_79_code 102 = .ok (.isub, 1) := by decide +kernel
theorem d_M_undo_103 : decode prog_13_method_79_code 103 = .ok (.bipush 20, 2) := by decide +kernel
theorem d_M_undo_105 : decode prog_13_method_79_code 105 = .ok (.irem, 1) := by decide +kernel
theorem d_M_undo_106 : decode prog_13_method_79_code 106 = .ok (.putfield 477, 3) := by decide +kernel
theorem d_M_undo_109 : decode prog_13_method_79_code 109 = .ok (.aload_n 0, 1) := by decide +kernel
theorem d_M_undo_110 : decode prog_13_method_79_code 110 = .ok (.dup, 1) := by decide +kernel
theorem d_M_undo_111 : decode prog_13_method_79_code 111 = .ok (.getfield 278, 3) := by decide +kernel
theorem d_M_undo_114 : decode prog_13_method_79_code 114 = .ok (.iconst 1, 1) := by decide +kernel
theorem d_M_undo_115 : decode prog_13_method_79_code 115 = .ok (.isub, 1) := by decide +kernel
theorem d_M_undo_116 : decode prog_13_method_79_code 116 = .ok (.putfield 278, 3) := by decide +kernel
theorem d_M_undo_119 : decode prog_13_method_79_code 119 = .ok (.iconst 1, 1) := by decide +kernel
theorem d_M_undo_120 : decode prog_13_method_79_code 120 = .ok (.ireturn, 1) := by decide +kernel
theorem d_M_seed_0 : decode prog_13_method_81_code 0 = .ok (.iload_n 1, 1) := by decide +kernel
theorem d_M_seed_1 : decode prog_13_method_81_code 1 = .ok (.ifCond .ge 15, 3) := by decide +kernel
theorem d_M_seed_4 : decode prog_13_method_81_code 4 = .ok (.aload_n 0, 1) := by decide +kernel
theorem d_M_seed_5 : decode prog_13_method_81_code 5 = .ok (.getfield 17, 3) := by decide +kernel
theorem d_M_seed_8 : decode prog_13_method_81_code 8 = .ok (.iconst 5, 1) := by decide +kernel
theorem d_M_seed_9 : decode prog_13_method_81_code 9 = .ok (.dup2, 1) := by decide +kernel
theorem d_M_seed_10 : decode prog_13_method_81_code 10 = .ok (.iaload, 1) := by decide +kernel
theorem d_M_seed_11 : decode prog_13_method_81_code 11 = .ok (.iconst 1, 1) := by decide +kernel
theorem d_M_seed_12 : decode prog_13_method_81_code 12 = .ok (.iadd, 1) := by decide +kernel
theorem d_M_seed_13 : decode prog_13_method_81_code 13 = .ok (.iastore, 1) := by decide +kernel
theorem d_M_seed_14 : decode prog_13_method_81_code 14 = .ok (.iconst 0, 1) := by decide +kernel
theorem d_M_seed_15 : decode prog_13_method_81_code 15 = .ok (.ireturn, 1) := by decide +kernel
theorem d_M_seed_16 : decode prog_13_method_81_code 16 = .ok (.aload_n 0, 1) := by decide +kernel
theorem d_M_seed_17 : decode prog_13_method_81_code 17 = .ok (.iload_n 1, 1) := by decide +kernel
theorem d_M_seed_18 : decode prog_13_method_81_code 18 = .ok (.i2l, 1) := by decide +kernel
theorem d_M_seed_19 : decode prog_13_method_81_code 19 = .ok (.putfield 145, 3) := by decide +kernel
theorem d_M_seed_22 : decode prog_13_method_81_code 22 = .ok (.iconst 1, 1) := by decide +kernel
theorem d_M_seed_23 : decode prog_13_method_81_code 23 = .ok (.ireturn, 1) := by decide +kernel
theorem d_M_kept_0 : decode prog_13_method_86_code 0 = .ok (.iload_n 1, 1) := by decide +kernel
theorem d_M_kept_1 : decode prog_13_method_86_code 1 = .ok (.i2l, 1) := by decide +kernel
theorem d_M_kept_2 : decode prog_13_method_86_code 2 = .ok (.lconst 0, 1) := by decide +kernel
theorem d_M_kept_3 : decode prog_13_method_86_code 3 = .ok (.aload_n 0, 1) := by decide +kernel
theorem d_M_kept_4 : decode prog_13_method_86_code 4 = .ok (.getfield 136, 3) := by decide +kernel
theorem d_M_kept_7 : decode prog_13_method_86_code 7 = .ok (.bipush 6, 2) := by decide +kernel
theorem d_M_kept_9 : decode prog_13_method_86_code 9 = .ok (.iaload, 1) := by decide +kernel
theorem d_M_kept_10 : decode prog_13_method_86_code 10 = .ok (.iconst 1, 1) := by decide +kernel
theorem d_M_kept_11 : decode prog_13_method_86_code 11 = .ok (.isub, 1) := by decide +kernel
theorem d_M_kept_12 : decode prog_13_method_86_code 12 = .ok (.i2l, 1) := by decide +kernel
theorem d_M_kept_13 : decode prog_13_method_86_code 13 = .ok (.invokestatic 198, 3) := by decide +kernel
theorem d_M_kept_16 : decode prog_13_method_86_code 16 = .ok (.ifCond .eq 28, 3) := by decide +kernel
theorem d_M_kept_19 : decode prog_13_method_86_code 19 = .ok (.iload_n 2, 1) := by decide +kernel
theorem d_M_kept_20 : decode prog_13_method_86_code 20 = .ok (.i2l, 1) := by decide +kernel
theorem d_M_kept_21 : decode prog_13_method_86_code 21 = .ok (.lconst 0, 1) := by decide +kernel
theorem d_M_kept_22 : decode prog_13_method_86_code 22 = .ok (.ldc2_w 499, 3) := by decide +kernel
theorem d_M_kept_25 : decode prog_13_method_86_code 25 = .ok (.invokestatic 198, 3) := by decide +kernel
theorem d_M_kept_28 : decode prog_13_method_86_code 28 = .ok (.ifCond .eq 16, 3) := by decide +kernel
theorem d_M_kept_31 : decode prog_13_method_86_code 31 = .ok (.aload_n 0, 1) := by decide +kernel
theorem d_M_kept_32 : decode prog_13_method_86_code 32 = .ok (.getfield 139, 3) := by decide +kernel
theorem d_M_kept_35 : decode prog_13_method_86_code 35 = .ok (.iconst 5, 1) := by decide +kernel
theorem d_M_kept_36 : decode prog_13_method_86_code 36 = .ok (.iload_n 1, 1) := by decide +kernel
theorem d_M_kept_37 : decode prog_13_method_86_code 37 = .ok (.imul, 1) := by decide +kernel
theorem d_M_kept_38 : decode prog_13_method_86_code 38 = .ok (.iload_n 2, 1) := by decide +kernel
theorem d_M_kept_39 : decode prog_13_method_86_code 39 = .ok (.iadd, 1) := by decide +kernel
theorem d_M_kept_40 : decode prog_13_method_86_code 40 = .ok (.iaload, 1) := by decide +kernel
theorem d_M_kept_41 : decode prog_13_method_86_code 41 = .ok (.goto 4, 3) := by decide +kernel
theorem d_M_kept_44 : decode prog_13_method_86_code 44 = .ok (.iconst (-1), 1) := by decide +kernel
theorem d_M_kept_45 : decode prog_13_method_86_code 45 = .ok (.ireturn, 1) := by decide +kernel
theorem d_M_see_0 : decode prog_13_method_87_code 0 = .ok (.aload_n 0, 1) := by decide +kernel
theorem d_M_see_1 : decode prog_13_method_87_code 1 = .ok (.getfield 155, 3) := by decide +kernel
theorem d_M_see_4 : decode prog_13_method_87_code 4 = .ok (.istore_n 2, 1) := by decide +kernel
theorem d_M_see_5 : decode prog_13_method_87_code 5 = .ok (.aload_n 0, 1) := by decide +kernel
theorem d_M_see_6 : decode prog_13_method_87_code 6 = .ok (.iconst 0, 1) := by decide +kernel
theorem d_M_see_7 : decode prog_13_method_87_code 7 = .ok (.putfield 155, 3) := by decide +kernel
theorem d_M_see_10 : decode prog_13_method_87_code 10 = .ok (.aload_n 0, 1) := by decide +kernel
theorem d_M_see_11 : decode prog_13_method_87_code 11 = .ok (.iload_n 1, 1) := by decide +kernel
theorem d_M_see_12 : decode prog_13_method_87_code 12 = .ok (.invokevirtual 415, 3) := by decide +kernel
theorem d_M_see_15 : decode prog_13_method_87_code 15 = .ok (.ifCond .eq 19, 3) := by decide +kernel
theorem d_M_see_18 : decode prog_13_method_87_code 18 = .ok (.iload_n 2, 1) := by decide +kernel
theorem d_M_see_19 : decode prog_13_method_87_code 19 = .ok (.i2l, 1) := by decide +kernel
theorem d_M_see_20 : decode prog_13_method_87_code 20 = .ok (.lconst 1, 1) := by decide +kernel
theorem d_M_see_21 : decode prog_13_method_87_code 21 = .ok (.ldc2_w 499, 3) := by decide +kernel
theorem d_M_see_24 : decode prog_13_method_87_code 24 = .ok (.invokestatic 198, 3) := by decide +kernel
theorem d_M_see_27 : decode prog_13_method_87_code 27 = .ok (.ifCond .eq 7, 3) := by decide +kernel
theorem d_M_see_30 : decode prog_13_method_87_code 30 = .ok (.iconst 1, 1) := by decide +kernel
theorem d_M_see_31 : decode prog_13_method_87_code 31 = .ok (.goto 4, 3) := by decide +kernel
theorem d_M_see_34 : decode prog_13_method_87_code 34 = .ok (.iconst 0, 1) := by decide +kernel
theorem d_M_see_35 : decode prog_13_method_87_code 35 = .ok (.istore_n 3, 1) := by decide +kernel
theorem d_M_see_36 : decode prog_13_method_87_code 36 = .ok (.iconst 0, 1) := by decide +kernel
theorem d_M_see_37 : decode prog_13_method_87_code 37 = .ok (.istore 4, 2) := by decide +kernel
theorem d_M_see_39 : decode prog_13_method_87_code 39 = .ok (.iload 4, 2) := by decide +kernel
theorem d_M_see_41 : decode prog_13_method_87_code 41 = .ok (.iload_n 2, 1) := by decide +kernel
theorem d_M_see_42 : decode prog_13_method_87_code 42 = .ok (.if_icmp .ge 35, 3) := by decide +kernel
theorem d_M_see_45 : decode prog_13_method_87_code 45 = .ok (.iload_n 3, 1) := by decide +kernel
theorem d_M_see_46 : decode prog_13_method_87_code 46 = .ok (.ifCond .eq 31, 3) := by decide +kernel
theorem d_M_see_49 : decode prog_13_method_87_code 49 = .ok (.aload_n 0, 1) := by decide +kernel
theorem d_M_see_50 : decode prog_13_method_87_code 50 = .ok (.getfield 7, 3) := by decide +kernel
theorem d_M_see_53 : decode prog_13_method_87_code 53 = .ok (.iload 4, 2) := by decide +kernel
theorem d_M_see_55 : decode prog_13_method_87_code 55 = .ok (.iaload, 1) := by decide +kernel
theorem d_M_see_56 : decode prog_13_method_87_code 56 = .ok (.aload_n 0, 1) := by decide +kernel
theorem d_M_see_57 : decode prog_13_method_87_code 57 = .ok (.getfield 136, 3) := by decide +kernel
theorem d_M_see_60 : decode prog_13_method_87_code 60 = .ok (.iconst 3, 1) := by decide +kernel
theorem d_M_see_61 : decode prog_13_method_87_code 61 = .ok (.iaload, 1) := by decide +kernel
theorem d_M_see_62 : decode prog_13_method_87_code 62 = .ok (.if_icmp .gt 7, 3) := by decide +kernel
theorem d_M_see_65 : decode prog_13_method_87_code 65 = .ok (.iconst 1, 1) := by decide +kernel
theorem d_M_see_66 : decode prog_13_method_87_code 66 = .ok (.goto 4, 3) := by decide +kernel
theorem d_M_see_69 : decode prog_13_method_87_code 69 = .ok (.iconst 0, 1) := by decide +kernel
theorem d_M_see_70 : decode prog_13_method_87_code 70 = .ok (.istore_n 3, 1) := by decide +kernel
theorem d_M_see_71 : decode prog_13_method_87_code 71 = .ok (.iinc 4 1, 3) := by decide +kernel
theorem d_M_see_74 : decode prog_13_method_87_code 74 = .ok (.goto (-35), 3) := by decide +kernel
theorem d_M_see_77 : decode prog_13_method_87_code 77 = .ok (.iload_n 3, 1) := by decide +kernel
theorem d_M_see_78 : decode prog_13_method_87_code 78 = .ok (.ifCond .ne 15, 3) := by decide +kernel
theorem d_M_see_81 : decode prog_13_method_87_code 81 = .ok (.aload_n 0, 1) := by decide +kernel
theorem d_M_see_82 : decode prog_13_method_87_code 82 = .ok (.getfield 17, 3) := by decide +kernel
theorem d_M_see_85 : decode prog_13_method_87_code 85 = .ok (.iconst 1, 1) := by decide +kernel
theorem d_M_see_86 : decode prog_13_method_87_code 86 = .ok (.dup2, 1) := by decide +kernel
theorem d_M_see_87 : decode prog_13_method_87_code 87 = .ok (.iaload, 1) := by decide +kernel
theorem d_M_see_88 : decode prog_13_method_87_code 88 = .ok (.iconst 1, 1) := by decide +kernel
theorem d_M_see_89 : decode prog_13_method_87_code 89 = .ok (.iadd, 1) := by decide +kernel
theorem d_M_see_90 : decode prog_13_method_87_code 90 = .ok (.iastore, 1) := by decide +kernel
theorem d_M_see_91 : decode prog_13_method_87_code 91 = .ok (.iconst 0, 1) := by decide +kernel
theorem d_M_see_92 : decode prog_13_method_87_code 92 = .ok (.ireturn, 1) := by decide +kernel
theorem d_M_see_93 : decode prog_13_method_87_code 93 = .ok (.aload_n 0, 1) := by decide +kernel
theorem d_M_see_94 : decode prog_13_method_87_code 94 = .ok (.iload_n 2, 1) := by decide +kernel
theorem d_M_see_95 : decode prog_13_method_87_code 95 = .ok (.putfield 281, 3) := by decide +kernel
theorem d_M_see_98 : decode prog_13_method_87_code 98 = .ok (.aload_n 0, 1) := by decide +kernel
theorem d_M_see_99 : decode prog_13_method_87_code 99 = .ok (.iload_n 1, 1) := by decide +kernel
theorem d_M_see_100 : decode prog_13_method_87_code 100 = .ok (.putfield 501, 3) := by decide +kernel
theorem d_M_see_103 : decode prog_13_method_87_code 103 = .ok (.iconst 0, 1) := by decide +kernel
theorem d_M_see_104 : decode prog_13_method_87_code 104 = .ok (.istore 4, 2) := by decide +kernel
theorem d_M_see_106 : decode prog_13_method_87_code 106 = .ok (.iload 4, 2) := by decide +kernel
theorem d_M_see_108 : decode prog_13_method_87_code 108 = .ok (.iload_n 2, 1) := by decide +kernel
theorem d_M_see_109 : decode prog_13_method_87_code 109 = .ok (.if_icmp .ge 23, 3) := by decide +kernel
theorem d_M_see_112 : decode prog_13_method_87_code 112 = .ok (.aload_n 0, 1) := by decide +kernel
theorem d_M_see_113 : decode prog_13_method_87_code 113 = .ok (.getfield 149, 3) := by decide +kernel
theorem d_M_see_116 : decode prog_13_method_87_code 116 = .ok (.iload 4, 2) := by decide +kernel
theorem d_M_see_118 : decode prog_13_method_87_code 118 = .ok (.aload_n 0, 1) := by decide +kernel
theorem d_M_see_119 : decode prog_13_method_87_code 119 = .ok (.getfield 7, 3) := by decide +kernel
theorem d_M_see_122 : decode prog_13_method_87_code 122 = .ok (.iload 4, 2) := by decide +kernel
theorem d_M_see_124 : decode prog_13_method_87_code 124 = .ok (.iaload, 1) := by decide +kernel
theorem d_M_see_125 : decode prog_13_method_87_code 125 = .ok (.iastore, 1) := by decide +kernel
theorem d_M_see_126 : decode prog_13_method_87_code 126 = .ok (.iinc 4 1, 3) := by decide +kernel
theorem d_M_see_129 : decode prog_13_method_87_code 129 = .ok (.goto (-23), 3) := by decide +kernel
theorem d_M_see_132 : decode prog_13_method_87_code 132 = .ok (.iconst 1, 1) := by decide +kernel
theorem d_M_see_133 : decode prog_13_method_87_code 133 = .ok (.ireturn, 1) := by decide +kernel
theorem d_M_slipsOf_0 : decode prog_13_method_88_code 0 = .ok (.iconst 0, 1) := by decide +kernel
theorem d_M_slipsOf_1 : decode prog_13_method_88_code 1 = .ok (.istore 4, 2) := by decide +kernel
theorem d_M_slipsOf_3 : decode prog_13_method_88_code 3 = .ok (.iconst 0, 1) := by decide +kernel
theorem d_M_slipsOf_4 : decode prog_13_method_88_code 4 = .ok (.istore 5, 2) := by decide +kernel
theorem d_M_slipsOf_6 : decode prog_13_method_88_code 6 = .ok (.iload 5, 2) := by decide +kernel
theorem d_M_slipsOf_8 : decode prog_13_method_88_code 8 = .ok (.aload_n 0, 1) := by decide +kernel
theorem d_M_slipsOf_9 : decode prog_13_method_88_code 9 = .ok (.aload_n 0, 1) := by decide +kernel
theorem d_M_slipsOf_10 : decode prog_13_method_88_code 10 = .ok (.getfield 501, 3) := by decide +kernel
theorem d_M_slipsOf_13 : decode prog_13_method_88_code 13 = .ok (.iconst 1, 1) := by decide +kernel
theorem d_M_slipsOf_14 : decode prog_13_method_88_code 14 = .ok (.invokevirtual 358, 3) := by decide +kernel
theorem d_M_slipsOf_17 : decode prog_13_method_88_code 17 = .ok (.if_icmp .gt 52, 3) := by decide +kernel
theorem d_M_slipsOf_20 : decode prog_13_method_88_code 20 = .ok (.aload_n 0, 1) := by decide +kernel
theorem d_M_slipsOf_21 : decode prog_13_method_88_code 21 = .ok (.aload_n 0, 1) := by decide +kernel
theorem d_M_slipsOf_22 : decode prog_13_method_88_code 22 = .ok (.iload_n 2, 1) := by decide +kernel
theorem d_M_slipsOf_23 : decode prog_13_method_88_code 23 = .ok (.aload_n 0, 1) := by decide +kernel
theorem d_M_slipsOf_24 : decode prog_13_method_88_code 24 = .ok (.aload_n 0, 1) := by decide +kernel
theorem d_M_slipsOf_25 : decode prog_13_method_88_code 25 = .ok (.getfield 501, 3) := by decide +kernel
theorem d_M_slipsOf_28 : decode prog_13_method_88_code 28 = .ok (.iconst 2, 1) := by decide +kernel
theorem d_M_slipsOf_29 : decode prog_13_method_88_code 29 = .ok (.invokevirtual 358, 3) := by decide +kernel
theorem d_M_slipsOf_32 : decode prog_13_method_88_code 32 = .ok (.iload_n 1, 1) := by decide +kernel
theorem d_M_slipsOf_33 : decode prog_13_method_88_code 33 = .ok (.invokestatic 402, 3) := by decide +kernel
theorem d_M_slipsOf_36 : decode prog_13_method_88_code 36 = .ok (.iload 5, 2) := by decide +kernel
theorem d_M_slipsOf_38 : decode prog_13_method_88_code 38 = .ok (.iload_n 3, 1) := by decide +kernel
theorem d_M_slipsOf_39 : decode prog_13_method_88_code 39 = .ok (.invokevirtual 406, 3) := by decide +kernel
theorem d_M_slipsOf_42 : decode prog_13_method_88_code 42 = .ok (.aload_n 0, 1) := by decide +kernel
theorem d_M_slipsOf_43 : decode prog_13_method_88_code 43 = .ok (.getfield 136, 3) := by decide +kernel
theorem d_M_slipsOf_46 : decode prog_13_method_88_code 46 = .ok (.iconst 3, 1) := by decide +kernel
theorem d_M_slipsOf_47 : decode prog_13_method_88_code 47 = .ok (.iaload, 1) := by decide +kernel
theorem d_M_slipsOf_48 : decode prog_13_method_88_code 48 = .ok (.invokevirtual 410, 3) := by decide +kernel
theorem d_M_slipsOf_51 : decode prog_13_method_88_code 51 = .ok (.aload_n 0, 1) := by decide +kernel
theorem d_M_slipsOf_52 : decode prog_13_method_88_code 52 = .ok (.getfield 149, 3) := by decide +kernel
theorem d_M_slipsOf_55 : decode prog_13_method_88_code 55 = .ok (.iload_n 1, 1) := by decide +kernel
theorem d_M_slipsOf_56 : decode prog_13_method_88_code 56 = .ok (.iaload, 1) := by decide +kernel
theorem d_M_slipsOf_57 : decode prog_13_method_88_code 57 = .ok (.if_icmp .ne 6, 3) := by decide +kernel
theorem d_M_slipsOf_60 : decode prog_13_method_88_code 60 = .ok (.iinc 4 1, 3) := by decide +kernel
theorem d_M_slipsOf_63 : decode prog_13_method_88_code 63 = .ok (.iinc 5 1, 3) := by decide +kernel
theorem d_M_slipsOf_66 : decode prog_13_method_88_code 66 = .ok (.goto (-60), 3) := by decide +kernel
theorem d_M_slipsOf_69 : decode prog_13_method_88_code 69 = .ok (.iload 4, 2) := by decide +kernel
theorem d_M_slipsOf_71 : decode prog_13_method_88_code 71 = .ok (.ireturn, 1) := by decide +kernel
theorem d_M_waysOf_0 : decode prog_13_method_89_code 0 = .ok (.iconst 1, 1) := by decide +kernel
theorem d_M_waysOf_1 : decode prog_13_method_89_code 1 = .ok (.istore_n 2, 1) := by decide +kernel
theorem d_M_waysOf_2 : decode prog_13_method_89_code 2 = .ok (.iconst 0, 1) := by decide +kernel
theorem d_M_waysOf_3 : decode prog_13_method_89_code 3 = .ok (.istore_n 3, 1) := by decide +kernel
theorem d_M_waysOf_4 : decode prog_13_method_89_code 4 = .ok (.iload_n 3, 1) := by decide +kernel
theorem d_M_waysOf_5 : decode prog_13_method_89_code 5 = .ok (.aload_n 0, 1) := by decide +kernel
theorem d_M_waysOf_6 : decode prog_13_method_89_code 6 = .ok (.getfield 281, 3) := by decide +kernel
theorem d_M_waysOf_9 : decode prog_13_method_89_code 9 = .ok (.if_icmp .ge 27, 3) := by decide +kernel
theorem d_M_waysOf_12 : decode prog_13_method_89_code 12 = .ok (.iload_n 2, 1) := by decide +kernel
theorem d_M_waysOf_13 : decode prog_13_method_89_code 13 = .ok (.aload_n 0, 1) := by decide +kernel
theorem d_M_waysOf_14 : decode prog_13_method_89_code 14 = .ok (.iload_n 3, 1) := by decide +kernel
theorem d_M_waysOf_15 : decode prog_13_method_89_code 15 = .ok (.iload_n 1, 1) := by decide +kernel
theorem d_M_waysOf_16 : decode prog_13_method_89_code 16 = .ok (.iconst 0, 1) := by decide +kernel
theorem d_M_waysOf_17 : decode prog_13_method_89_code 17 = .ok (.invokevirtual 504, 3) := by decide +kernel
theorem d_M_waysOf_20 : decode prog_13_method_89_code 20 = .ok (.aload_n 0, 1) := by decide +kernel
theorem d_M_waysOf_21 : decode prog_13_method_89_code 21 = .ok (.iload_n 3, 1) := by decide +kernel
theorem d_M_waysOf_22 : decode prog_13_method_89_code 22 = .ok (.iload_n 1, 1) := by decide +kernel
theorem d_M_waysOf_23 : decode prog_13_method_89_code 23 = .ok (.iconst 1, 1) := by decide +kernel
theorem d_M_waysOf_24 : decode prog_13_method_89_code 24 = .ok (.invokevirtual 504, 3) := by decide +kernel
theorem d_M_waysOf_27 : decode prog_13_method_89_code 27 = .ok (.iadd, 1) := by decide +kernel
theorem d_M_waysOf_28 : decode prog_13_method_89_code 28 = .ok (.imul, 1) := by decide +kernel
theorem d_M_waysOf_29 : decode prog_13_method_89_code 29 = .ok (.istore_n 2, 1) := by decide +kernel
theorem d_M_waysOf_30 : decode prog_13_method_89_code 30 = .ok (.iinc 3 1, 3) := by decide +kernel
theorem d_M_waysOf_33 : decode prog_13_method_89_code 33 = .ok (.goto (-29), 3) := by decide +kernel
theorem d_M_waysOf_36 : decode prog_13_method_89_code 36 = .ok (.iload_n 2, 1) := by decide +kernel
theorem d_M_waysOf_37 : decode prog_13_method_89_code 37 = .ok (.ireturn, 1) := by decide +kernel
theorem d_M_was_0 : decode prog_13_method_90_code 0 = .ok (.aload_n 0, 1) := by decide +kernel
theorem d_M_was_1 : decode prog_13_method_90_code 1 = .ok (.getfield 281, 3) := by decide +kernel
theorem d_M_was_4 : decode prog_13_method_90_code 4 = .ok (.ifCond .eq 21, 3) := by decide +kernel
theorem d_M_was_7 : decode prog_13_method_90_code 7 = .ok (.iload_n 1, 1) := by decide +kernel
theorem d_M_was_8 : decode prog_13_method_90_code 8 = .ok (.i2l, 1) := by decide +kernel
theorem d_M_was_9 : decode prog_13_method_90_code 9 = .ok (.ldc2_w 471, 3) := by decide +kernel
theorem d_M_was_12 : decode prog_13_method_90_code 12 = .ok (.aload_n 0, 1) := by decide +kernel
theorem d_M_was_13 : decode prog_13_method_90_code 13 = .ok (.getfield 281, 3) := by decide +kernel
theorem d_M_was_16 : decode prog_13_method_90_code 16 = .ok (.iconst 1, 1) := by decide +kernel
theorem d_M_was_17 : decode prog_13_method_90_code 17 = .ok (.isub, 1) := by decide +kernel
theorem d_M_was_18 : decode prog_13_method_90_code 18 = .ok (.i2l, 1) := by decide +kernel
theorem d_M_was_19 : decode prog_13_method_90_code 19 = .ok (.invokestatic 198, 3) := by decide +kernel
theorem d_M_was_22 : decode prog_13_method_90_code 22 = .ok (.ifCond .ne 5, 3) := by decide +kernel
theorem d_M_was_25 : decode prog_13_method_90_code 25 = .ok (.iconst (-1), 1) := by decide +kernel
theorem d_M_was_26 : decode prog_13_method_90_code 26 = .ok (.ireturn, 1) := by decide +kernel
theorem d_M_was_27 : decode prog_13_method_90_code 27 = .ok (.aload_n 0, 1) := by decide +kernel
theorem d_M_was_28 : decode prog_13_method_90_code 28 = .ok (.aload_n 0, 1) := by decide +kernel
theorem d_M_was_29 : decode prog_13_method_90_code 29 = .ok (.getfield 501, 3) := by decide +kernel
theorem d_M_was_32 : decode prog_13_method_90_code 32 = .ok (.iconst 0, 1) := by decide +kernel
theorem d_M_was_33 : decode prog_13_method_90_code 33 = .ok (.invokevirtual 358, 3) := by decide +kernel
theorem d_M_was_36 : decode prog_13_method_90_code 36 = .ok (.istore_n 2, 1) := by decide +kernel
theorem d_M_was_37 : decode prog_13_method_90_code 37 = .ok (.aload_n 0, 1) := by decide +kernel
theorem d_M_was_38 : decode prog_13_method_90_code 38 = .ok (.iload_n 2, 1) := by decide +kernel
theorem d_M_was_39 : decode prog_13_method_90_code 39 = .ok (.invokevirtual 507, 3) := by decide +kernel
theorem d_M_was_42 : decode prog_13_method_90_code 42 = .ok (.istore_n 3, 1) := by decide +kernel
theorem d_M_was_43 : decode prog_13_method_90_code 43 = .ok (.iload_n 1, 1) := by decide +kernel
theorem d_M_was_44 : decode prog_13_method_90_code 44 = .ok (.iconst (-1), 1) := by decide +kernel
theorem d_M_was_45 : decode prog_13_method_90_code 45 = .ok (.if_icmp .ne 5, 3) := by decide +kernel
theorem d_M_was_48 : decode prog_13_method_90_code 48 = .ok (.iload_n 3, 1) := by decide +kernel
theorem d_M_was_49 : decode prog_13_method_90_code 49 = .ok (.ireturn, 1) := by decide +kernel
theorem d_M_was_50 : decode prog_13_method_90_code 50 = .ok (.iload_n 3, 1) := by decide +kernel
theorem d_M_was_51 : decode prog_13_method_90_code 51 = .ok (.ifCond .ne 5, 3) := by decide +kernel
theorem d_M_was_54 : decode prog_13_method_90_code 54 = .ok (.iconst 0, 1) := by decide +kernel
theorem d_M_was_55 : decode prog_13_method_90_code 55 = .ok (.ireturn, 1) := by decide +kernel
theorem d_M_was_56 : decode prog_13_method_90_code 56 = .ok (.aload_n 0, 1) := by decide +kernel
theorem d_M_was_57 : decode prog_13_method_90_code 57 = .ok (.iload_n 1, 1) := by decide +kernel
theorem d_M_was_58 : decode prog_13_method_90_code 58 = .ok (.iload_n 2, 1) := by decide +kernel
theorem d_M_was_59 : decode prog_13_method_90_code 59 = .ok (.iconst 1, 1) := by decide +kernel
theorem d_M_was_60 : decode prog_13_method_90_code 60 = .ok (.invokevirtual 504, 3) := by decide +kernel
theorem d_M_was_63 : decode prog_13_method_90_code 63 = .ok (.istore 4, 2) := by decide +kernel
theorem d_M_was_65 : decode prog_13_method_90_code 65 = .ok (.sipush 1000, 3) := by decide +kernel
theorem d_M_was_68 : decode prog_13_method_90_code 68 = .ok (.iload 4, 2) := by decide +kernel
theorem d_M_was_70 : decode prog_13_method_90_code 70 = .ok (.imul, 1) := by decide +kernel
theorem d_M_was_71 : decode prog_13_method_90_code 71 = .ok (.iload 4, 2) := by decide +kernel
theorem d_M_was_73 : decode prog_13_method_90_code 73 = .ok (.aload_n 0, 1) := by decide +kernel
theorem d_M_was_74 : decode prog_13_method_90_code 74 = .ok (.iload_n 1, 1) := by decide +kernel
theorem d_M_was_75 : decode prog_13_method_90_code 75 = .ok (.iload_n 2, 1) := by decide +kernel
theorem d_M_was_76 : decode prog_13_method_90_code 76 = .ok (.iconst 0, 1) := by decide +kernel
theorem d_M_was_77 : decode prog_13_method_90_code 77 = .ok (.invokevirtual 504, 3) := by decide +kernel
theorem d_M_was_80 : decode prog_13_method_90_code 80 = .ok (.iadd, 1) := by decide +kernel
theorem d_M_was_81 : decode prog_13_method_90_code 81 = .ok (.idiv, 1) := by decide +kernel
theorem d_M_was_82 : decode prog_13_method_90_code 82 = .ok (.ireturn, 1) := by decide +kernel
theorem d_M_strong_0 : decode prog_13_method_91_code 0 = .ok (.aload_n 0, 1) := by decide +kernel
theorem d_M_strong_1 : decode prog_13_method_91_code 1 = .ok (.getfield 281, 3) := by decide +kernel
theorem d_M_strong_4 : decode prog_13_method_91_code 4 = .ok (.ifCond .eq 15, 3) := by decide +kernel
theorem d_M_strong_7 : decode prog_13_method_91_code 7 = .ok (.iload_n 1, 1) := by decide +kernel
theorem d_M_strong_8 : decode prog_13_method_91_code 8 = .ok (.i2l, 1) := by decide +kernel
theorem d_M_strong_9 : decode prog_13_method_91_code 9 = .ok (.lconst 0, 1) := by decide +kernel
theorem d_M_strong_10 : decode prog_13_method_91_code 10 = .ok (.ldc2_w 510, 3) := by decide +kernel
theorem d_M_strong_13 : decode prog_13_method_91_code 13 = .ok (.invokestatic 198, 3) := by decide +kernel
theorem d_M_strong_16 : decode prog_13_method_91_code 16 = .ok (.ifCond .ne 5, 3) := by decide +kernel
theorem d_M_strong_19 : decode prog_13_method_91_code 19 = .ok (.iconst (-1), 1) := by decide +kernel
theorem d_M_strong_20 : decode prog_13_method_91_code 20 = .ok (.ireturn, 1) := by decide +kernel
theorem d_M_strong_21 : decode prog_13_method_91_code 21 = .ok (.iconst 0, 1) := by decide +kernel
theorem d_M_strong_22 : decode prog_13_method_91_code 22 = .ok (.istore_n 2, 1) := by decide +kernel
theorem d_M_strong_23 : decode prog_13_method_91_code 23 = .ok (.iconst (-1), 1) := by decide +kernel
theorem d_M_strong_24 : decode prog_13_method_91_code 24 = .ok (.istore_n 3, 1) := by decide +kernel
theorem d_M_strong_25 : decode prog_13_method_91_code 25 = .ok (.iconst (-1), 1) := by decide +kernel
theorem d_M_strong_26 : decode prog_13_method_91_code 26 = .ok (.istore 4, 2) := by decide +kernel
theorem d_M_strong_28 : decode prog_13_method_91_code 28 = .ok (.iconst 1, 1) := by decide +kernel
theorem d_M_strong_29 : decode prog_13_method_91_code 29 = .ok (.istore 5, 2) := by decide +kernel
theorem d_M_strong_31 : decode prog_13_method_91_code 31 = .ok (.iload 5, 2) := by decide +kernel
theorem d_M_strong_33 : decode prog_13_method_91_code 33 = .ok (.bipush 100, 2) := by decide +kernel
theorem d_M_strong_35 : decode prog_13_method_91_code 35 = .ok (.if_icmp .ge 36, 3) := by decide +kernel
theorem d_M_strong_38 : decode prog_13_method_91_code 38 = .ok (.aload_n 0, 1) := by decide +kernel
theorem d_M_strong_39 : decode prog_13_method_91_code 39 = .ok (.iload 5, 2) := by decide +kernel
theorem d_M_strong_41 : decode prog_13_method_91_code 41 = .ok (.invokevirtual 507, 3) := by decide +kernel
theorem d_M_strong_44 : decode prog_13_method_91_code 44 = .ok (.ifCond .ne 6, 3) := by decide +kernel
theorem d_M_strong_47 : decode prog_13_method_91_code 47 = .ok (.goto 18, 3) := by decide +kernel
theorem d_M_strong_50 : decode prog_13_method_91_code 50 = .ok (.iinc 2 1, 3) := by decide +kernel
theorem d_M_strong_53 : decode prog_13_method_91_code 53 = .ok (.iload_n 3, 1) := by decide +kernel
theorem d_M_strong_54 : decode prog_13_method_91_code 54 = .ok (.iconst (-1), 1) := by decide +kernel
theorem d_M_strong_55 : decode prog_13_method_91_code 55 = .ok (.if_icmp .ne 6, 3) := by decide +kernel
theorem d_M_strong_58 : decode prog_13_method_91_code 58 = .ok (.iload 5, 2) := by decide +kernel
theorem d_M_strong_60 : decode prog_13_method_91_code 60 = .ok (.istore_n 3, 1) := by decide +kernel
theorem d_M_strong_61 : decode prog_13_method_91_code 61 = .ok (.iload 5, 2) := by decide +kernel
theorem d_M_strong_63 : decode prog_13_method_91_code 63 = .ok (.istore 4, 2) := by decide +kernel
theorem d_M_strong_65 : decode prog_13_method_91_code 65 = .ok (.iinc 5 1, 3) := by decide +kernel
theorem d_M_strong_68 : decode prog_13_method_91_code 68 = .ok (.goto (-37), 3) := by decide +kernel
theorem d_M_strong_71 : decode prog_13_method_91_code 71 = .ok (.iload_n 1, 1) := by decide +kernel
theorem d_M_strong_72 : decode prog_13_method_91_code 72 = .ok (.ifCond .ne 7, 3) := by decide +kernel
theorem d_M_strong_75 : decode prog_13_method_91_code 75 = .ok (.iload_n 2, 1) := by decide +kernel
theorem d_M_strong_76 : decode prog_13_method_91_code 76 = .ok (.goto 14, 3) := by decide +kernel
theorem d_M_strong_79 : decode prog_13_method_91_code 79 = .ok (.iload_n 1, 1) := by decide +kernel
theorem d_M_strong_80 : decode prog_13_method_91_code 80 = .ok (.iconst 1, 1) := by decide +kernel
theorem d_M_strong_81 : decode prog_13_method_91_code 81 = .ok (.if_icmp .ne 7, 3) := by decide +kernel
theorem d_M_strong_84 : decode prog_13_method_91_code 84 = .ok (.iload_n 3, 1) := by decide +kernel
theorem d_M_strong_85 : decode prog_13_method_91_code 85 = .ok (.goto 5, 3) := by decide +kernel
theorem d_M_strong_88 : decode prog_13_method_91_code 88 = .ok (.iload 4, 2) := by decide +kernel
theorem d_M_strong_90 : decode prog_13_method_91_code 90 = .ok (.ireturn, 1) := by decide +kernel
theorem d_M_next_0 : decode prog_13_method_92_code 0 = .ok (.aload_n 0, 1) := by decide +kernel
theorem d_M_next_1 : decode prog_13_method_92_code 1 = .ok (.getfield 281, 3) := by decide +kernel
theorem d_M_next_4 : decode prog_13_method_92_code 4 = .ok (.ifCond .eq 15, 3) := by decide +kernel
theorem d_M_next_7 : decode prog_13_method_92_code 7 = .ok (.aload_n 0, 1) := by decide +kernel
theorem d_M_next_8 : decode prog_13_method_92_code 8 = .ok (.getfield 281, 3) := by decide +kernel
theorem d_M_next_11 : decode prog_13_method_92_code 11 = .ok (.aload_n 0, 1) := by decide +kernel
theorem d_M_next_12 : decode prog_13_method_92_code 12 = .ok (.iconst 2, 1) := by decide +kernel
theorem d_M_next_13 : decode prog_13_method_92_code 13 = .ok (.invokevirtual 374, 3) := by decide +kernel
theorem d_M_next_16 : decode prog_13_method_92_code 16 = .ok (.if_icmp .lt 5, 3) := by decide +kernel
theorem d_M_next_19 : decode prog_13_method_92_code 19 = .ok (.iconst (-1), 1) := by decide +kernel
theorem d_M_next_20 : decode prog_13_method_92_code 20 = .ok (.ireturn, 1) := by decide +kernel
theorem d_M_next_21 : decode prog_13_method_92_code 21 = .ok (.aload_n 0, 1) := by decide +kernel
theorem d_M_next_22 : decode prog_13_method_92_code 22 = .ok (.aload_n 0, 1) := by decide +kernel
theorem d_M_next_23 : decode prog_13_method_92_code 23 = .ok (.getfield 501, 3) := by decide +kernel
theorem d_M_next_26 : decode prog_13_method_92_code 26 = .ok (.iconst 0, 1) := by decide +kernel
theorem d_M_next_27 : decode prog_13_method_92_code 27 = .ok (.invokevirtual 358, 3) := by decide +kernel
theorem d_M_next_30 : decode prog_13_method_92_code 30 = .ok (.aload_n 0, 1) := by decide +kernel
theorem d_M_next_31 : decode prog_13_method_92_code 31 = .ok (.aload_n 0, 1) := by decide +kernel
theorem d_M_next_32 : decode prog_13_method_92_code 32 = .ok (.getfield 501, 3) := by decide +kernel
theorem d_M_next_35 : decode prog_13_method_92_code 35 = .ok (.iconst 2, 1) := by decide +kernel
theorem d_M_next_36 : decode prog_13_method_92_code 36 = .ok (.invokevirtual 358, 3) := by decide +kernel
theorem d_M_next_39 : decode prog_13_method_92_code 39 = .ok (.aload_n 0, 1) := by decide +kernel
theorem d_M_next_40 : decode prog_13_method_92_code 40 = .ok (.getfield 281, 3) := by decide +kernel
theorem d_M_next_43 : decode prog_13_method_92_code 43 = .ok (.invokestatic 402, 3) := by decide +kernel
theorem d_M_next_46 : decode prog_13_method_92_code 46 = .ok (.istore_n 2, 1) := by decide +kernel
theorem d_M_next_47 : decode prog_13_method_92_code 47 = .ok (.iconst 0, 1) := by decide +kernel
theorem d_M_next_48 : decode prog_13_method_92_code 48 = .ok (.istore_n 3, 1) := by decide +kernel
theorem d_M_next_49 : decode prog_13_method_92_code 49 = .ok (.iconst 0, 1) := by decide +kernel
theorem d_M_next_50 : decode prog_13_method_92_code 50 = .ok (.istore 4, 2) := by decide +kernel
theorem d_M_next_52 : decode prog_13_method_92_code 52 = .ok (.iload 4, 2) := by decide +kernel
theorem d_M_next_54 : decode prog_13_method_92_code 54 = .ok (.aload_n 0, 1) := by decide +kernel
theorem d_M_next_55 : decode prog_13_method_92_code 55 = .ok (.aload_n 0, 1) := by decide +kernel
theorem d_M_next_56 : decode prog_13_method_92_code 56 = .ok (.getfield 501, 3) := by decide +kernel
theorem d_M_next_59 : decode prog_13_method_92_code 59 = .ok (.iconst 1, 1) := by decide +kernel
theorem d_M_next_60 : decode prog_13_method_92_code 60 = .ok (.invokevirtual 358, 3) := by decide +kernel
theorem d_M_next_63 : decode prog_13_method_92_code 63 = .ok (.if_icmp .gt 29, 3) := by decide +kernel
theorem d_M_next_66 : decode prog_13_method_92_code 66 = .ok (.aload_n 0, 1) := by decide +kernel
theorem d_M_next_67 : decode prog_13_method_92_code 67 = .ok (.iload_n 2, 1) := by decide +kernel
theorem d_M_next_68 : decode prog_13_method_92_code 68 = .ok (.iload 4, 2) := by decide +kernel
theorem d_M_next_70 : decode prog_13_method_92_code 70 = .ok (.iload_n 1, 1) := by decide +kernel
theorem d_M_next_71 : decode prog_13_method_92_code 71 = .ok (.invokevirtual 406, 3) := by decide +kernel
theorem d_M_next_74 : decode prog_13_method_92_code 74 = .ok (.aload_n 0, 1) := by decide +kernel
theorem d_M_next_75 : decode prog_13_method_92_code 75 = .ok (.getfield 136, 3) := by decide +kernel
theorem d_M_next_78 : decode prog_13_method_92_code 78 = .ok (.iconst 3, 1) := by decide +kernel
theorem d_M_next_79 : decode prog_13_method_92_code 79 = .ok (.iaload, 1) := by decide +kernel
theorem d_M_next_80 : decode prog_13_method_92_code 80 = .ok (.if_icmp .lt 6, 3) := by decide +kernel
theorem d_M_next_83 : decode prog_13_method_92_code 83 = .ok (.iinc 3 1, 3) := by decide +kernel
theorem d_M_next_86 : decode prog_13_method_92_code 86 = .ok (.iinc 4 1, 3) := by decide +kernel
theorem d_M_next_89 : decode prog_13_method_92_code 89 = .ok (.goto (-37), 3) := by decide +kernel
theorem d_M_next_92 : decode prog_13_method_92_code 92 = .ok (.sipush 1000, 3) := by decide +kernel
theorem d_M_next_95 : decode prog_13_method_92_code 95 = .ok (.iload_n 3, 1) := by decide +kernel
theorem d_M_next_96 : decode prog_13_method_92_code 96 = .ok (.imul, 1) := by decide +kernel
theorem d_M_next_97 : decode prog_13_method_92_code 97 = .ok (.aload_n 0, 1) := by decide +kernel
theorem d_M_next_98 : decode prog_13_method_92_code 98 = .ok (.aload_n 0, 1) := by decide +kernel
theorem d_M_next_99 : decode prog_13_method_92_code 99 = .ok (.getfield 501, 3) := by decide +kernel
theorem d_M_next_102 : decode prog_13_method_92_code 102 = .ok (.iconst 1, 1) := by decide +kernel
theorem d_M_next_103 : decode prog_13_method_92_code 103 = .ok (.invokevirtual 358, 3) := by decide +kernel
theorem d_M_next_106 : decode prog_13_method_92_code 106 = .ok (.iconst 1, 1) := by decide +kernel
theorem d_M_next_107 : decode prog_13_method_92_code 107 = .ok (.iadd, 1) := by decide +kernel
theorem d_M_next_108 : decode prog_13_method_92_code 108 = .ok (.idiv, 1) := by decide +kernel
theorem d_M_next_109 : decode prog_13_method_92_code 109 = .ok (.ireturn, 1) := by decide +kernel
theorem d_M_isClear_0 : decode prog_13_method_93_code 0 = .ok (.iconst 0, 1) := by decide +kernel
theorem d_M_isClear_1 : decode prog_13_method_93_code 1 = .ok (.istore_n 3, 1) := by decide +kernel
theorem d_M_isClear_2 : decode prog_13_method_93_code 2 = .ok (.iload_n 3, 1) := by decide +kernel
theorem d_M_isClear_3 : decode prog_13_method_93_code 3 = .ok (.iload_n 2, 1) := by decide +kernel
theorem d_M_isClear_4 : decode prog_13_method_93_code 4 = .ok (.if_icmp .gt 46, 3) := by decide +kernel
theorem d_M_isClear_7 : decode prog_13_method_93_code 7 = .ok (.iconst 0, 1) := by decide +kernel
theorem d_M_isClear_8 : decode prog_13_method_93_code 8 = .ok (.istore 4, 2) := by decide +kernel
theorem d_M_isClear_10 : decode prog_13_method_93_code 10 = .ok (.iload 4, 2) := by decide +kernel
theorem d_M_isClear_12 : decode prog_13_method_93_code 12 = .ok (.iload_n 2, 1) := by decide +kernel
theorem d_M_isClear_13 : decode prog_13_method_93_code 13 = .ok (.if_icmp .gt 31, 3) := by decide +kernel
theorem d_M_isClear_16 : decode prog_13_method_93_code 16 = .ok (.aload_n 0, 1) := by decide +kernel
theorem d_M_isClear_17 : decode prog_13_method_93_code 17 = .ok (.iload_n 1, 1) := by decide +kernel
theorem d_M_isClear_18 : decode prog_13_method_93_code 18 = .ok (.iconst 0, 1) := by decide +kernel
theorem d_M_isClear_19 : decode prog_13_method_93_code 19 = .ok (.iload_n 3, 1) := by decide +kernel
theorem d_M_isClear_20 : decode prog_13_method_93_code 20 = .ok (.iconst 0, 1) := by decide +kernel
theorem d_M_isClear_21 : decode prog_13_method_93_code 21 = .ok (.invokevirtual 512, 3) := by decide +kernel
theorem d_M_isClear_24 : decode prog_13_method_93_code 24 = .ok (.aload_n 0, 1) := by decide +kernel
theorem d_M_isClear_25 : decode prog_13_method_93_code 25 = .ok (.iload_n 1, 1) := by decide +kernel
theorem d_M_isClear_26 : decode prog_13_method_93_code 26 = .ok (.iconst 0, 1) := by decide +kernel
theorem d_M_isClear_27 : decode prog_13_method_93_code 27 = .ok (.iload 4, 2) := by decide +kernel
theorem d_M_isClear_29 : decode prog_13_method_93_code 29 = .ok (.iconst 1, 1) := by decide +kernel
theorem d_M_isClear_30 : decode prog_13_method_93_code 30 = .ok (.invokevirtual 512, 3) := by decide +kernel
theorem d_M_isClear_33 : decode prog_13_method_93_code 33 = .ok (.if_icmp .ne 5, 3) := by decide +kernel
theorem d_M_isClear_36 : decode prog_13_method_93_code 36 = .ok (.iconst 0, 1) := by decide +kernel
theorem d_M_isClear_37 : decode prog_13_method_93_code 37 = .ok (.ireturn, 1) := by decide +kernel
theorem d_M_isClear_38 : decode prog_13_method_93_code 38 = .ok (.iinc 4 1, 3) := by decide +kernel
theorem d_M_isClear_41 : decode prog_13_method_93_code 41 = .ok (.goto (-31), 3) := by decide +kernel
theorem d_M_isClear_44 : decode prog_13_method_93_code 44 = .ok (.iinc 3 1, 3) := by decide +kernel
theorem d_M_isClear_47 : decode prog_13_method_93_code 47 = .ok (.goto (-45), 3) := by decide +kernel
theorem d_M_isClear_50 : decode prog_13_method_93_code 50 = .ok (.iconst 1, 1) := by decide +kernel
theorem d_M_isClear_51 : decode prog_13_method_93_code 51 = .ok (.ireturn, 1) := by decide +kernel
theorem d_M_clear_0 : decode prog_13_method_94_code 0 = .ok (.aload_n 0, 1) := by decide +kernel
theorem d_M_clear_1 : decode prog_13_method_94_code 1 = .ok (.iload_n 1, 1) := by decide +kernel
theorem d_M_clear_2 : decode prog_13_method_94_code 2 = .ok (.invokevirtual 415, 3) := by decide +kernel
theorem d_M_clear_5 : decode prog_13_method_94_code 5 = .ok (.ifCond .ne 5, 3) := by decide +kernel
theorem d_M_clear_8 : decode prog_13_method_94_code 8 = .ok (.iconst (-1), 1) := by decide +kernel
theorem d_M_clear_9 : decode prog_13_method_94_code 9 = .ok (.ireturn, 1) := by decide +kernel
theorem d_M_clear_10 : decode prog_13_method_94_code 10 = .ok (.iconst (-1), 1) := by decide +kernel
theorem d_M_clear_11 : decode prog_13_method_94_code 11 = .ok (.istore_n 2, 1) := by decide +kernel
theorem d_M_clear_12 : decode prog_13_method_94_code 12 = .ok (.iload_n 2, 1) := by decide +kernel
theorem d_M_clear_13 : decode prog_13_method_94_code 13 = .ok (.bipush 9, 2) := by decide +kernel
theorem d_M_clear_15 : decode prog_13_method_94_code 15 = .ok (.if_icmp .ge 20, 3) := by decide +kernel
theorem d_M_clear_18 : decode prog_13_method_94_code 18 = .ok (.aload_n 0, 1) := by decide +kernel
theorem d_M_clear_19 : decode prog_13_method_94_code 19 = .ok (.iload_n 1, 1) := by decide +kernel
theorem d_M_clear_20 : decode prog_13_method_94_code 20 = .ok (.iload_n 2, 1) := by decide +kernel
theorem d_M_clear_21 : decode prog_13_method_94_code 21 = .ok (.iconst 1, 1) := by decide +kernel
theorem d_M_clear_22 : decode prog_13_method_94_code 22 = .ok (.iadd, 1) := by decide +kernel
theorem d_M_clear_23 : decode prog_13_method_94_code 23 = .ok (.invokevirtual 516, 3) := by decide +kernel
theorem d_M_clear_26 : decode prog_13_method_94_code 26 = .ok (.ifCond .eq 9, 3) := by decide +kernel
theorem d_M_clear_29 : decode prog_13_method_94_code 29 = .ok (.iinc 2 1, 3) := by decide +kernel
theorem d_M_clear_32 : decode prog_13_method_94_code 32 = .ok (.goto (-20), 3) := by decide +kernel
theorem d_M_clear_35 : decode prog_13_method_94_code 35 = .ok (.iload_n 2, 1) := by decide +kernel
theorem d_M_clear_36 : decode prog_13_method_94_code 36 = .ok (.ireturn, 1) := by decide +kernel
def f_M_isKept_116 (x3 : Int32) (t0 : Int32) (t1 : Int32) (σ : St) : Option (St) :=
  gd (inB t1 300) <|
  lt (uA σ 12 (upd (sA σ 12) t1.toNatClampNeg t0)) fun σ_2 =>
  gd (inB (x3 + 4) 300) <|
  lt (uA σ_2 12 (upd (sA σ_2 12) (x3 + 4).toNatClampNeg (sI σ_2 21))) fun σ_4 =>
  some σ_4
def f_M_isKept_55 (x1 : Int32) (x2 : Int32) (σ : St) : Option (St) :=
  lt (((5 * (sA σ 11 (6 : Int32).toNatClampNeg)) - 5)) fun x_1 =>
  gd (inB x_1 300) <|
  lt (uA σ 12 (upd (sA σ 12) x_1.toNatClampNeg (sA σ 11 (0 : Int32).toNatClampNeg))) fun σ_3 =>
  gd (inB (x_1 + 1) 300) <|
  lt (uA σ_3 12 (upd (sA σ_3 12) (x_1 + 1).toNatClampNeg x1)) fun σ_5 =>
  gd (inB (x_1 + 2) 300) <|
  lt (uA σ_5 12 (upd (sA σ_5 12) (x_1 + 2).toNatClampNeg x2)) fun σ_7 =>
  if (sI σ_7 22) = 0 then
    f_M_isKept_116 x_1 0 (x_1 + 3) σ_7
  else
    f_M_isKept_116 x_1 1 (x_1 + 3) σ_7
def f_M_isKept_14b (k14 : Int32 → Int32 → Int32 → St → Option (St)) (x1 : Int32) (x2 : Int32) (x3 : Int32) (σ : St) : Option (St) :=
  if 295 ≤ x3 then
    f_M_isKept_55 x1 x2 σ
  else
    gd (inB (x3 + 5) 300) <|
    gd (inB x3 300) <|
    lt (uA σ 12 (upd (sA σ 12) x3.toNatClampNeg (sA σ 12 (x3 + 5).toNatClampNeg))) fun σ_3 =>
    lt ((x3 + 1)) fun x_4 =>
    k14 x1 x2 x_4 σ_3
def f_M_isKept_14 : Nat → Int32 → Int32 → Int32 → St → Option (St)
  | 0 => fun _ _ _ _ => none
  | n + 1 => f_M_isKept_14b   (f_M_isKept_14   n)
def f_M_isKept (x1 : Int32) (x2 : Int32) (σ : St) : Option (St) :=
  if (sA σ 11 (6 : Int32).toNatClampNeg) = 60 then
    f_M_isKept_14 FU x1 x2 0 σ
  else
    lt (uA σ 11 (upd (sA σ 11) (6 : Int32).toNatClampNeg ((sA σ 11 (6 : Int32).toNatClampNeg) + 1))) fun σ_1 =>
    f_M_isKept_55 x1 x2 σ_1
set_option maxHeartbeats 4000000 in
set_option maxRecDepth 20000 in
theorem t_M_isKept_116 {σ2 : St} (C : Cx g A p s m av meth c prog_13_method_80_code 4 "BellHammerModel" none)  {x3 : Int32} {t0 : Int32} {t1 : Int32} {σ : St} {H : Heap} {locs : List Loc} {ls : Array Slot} (hf : f_M_isKept_116   x3 t0 t1 σ = some σ2) (w : Wd g (wM g q) A s σ H locs) (hl : lv_has ls 4 [(0, .ref (q 0)), (3, .int x3)]) : WK p l e s m av below meth c 0 g (wM g q) A none σ2 H locs (F0 m 116 ls [.int t0, .int t1, .ref (q 42)]) := by
  obtain ⟨hx, hb, hml, hown, hts, hK, hA, hZ, hlocks, hr, hN⟩ := id C
  unfold f_M_isKept_116 at hf
  obtain ⟨g_1, hf⟩ := gd_e hf
  refine ms_42 C w g_1 d_M_isKept_116 (fun σ_2 H locs eσ_2 w => ?_)
  have hf := lt_e eσ_2 hf
  refine lv_aload_n hx hb d_M_isKept_117 rfl (lv_at hl 0 rfl) ?_
  refine mg_0_blows C w k1150 d_M_isKept_118 ?_
  refine lv_iload_n hx hb d_M_isKept_121 rfl (lv_at hl 1 rfl) ?_
  refine lv_iconst (v := 4) hx hb d_M_isKept_122 (by decide) ?_
  refine lv_iadd hx hb d_M_isKept_123 ?_
  refine lv_aload_n hx hb d_M_isKept_124 rfl (lv_at hl 0 rfl) ?_
  refine mg_0_turnLast C w k1157 d_M_isKept_125 ?_
  obtain ⟨g_3, hf⟩ := gd_e hf
  refine ms_42 C w g_3 d_M_isKept_128 (fun σ_4 H locs eσ_4 w => ?_)
  have hf := lt_e eσ_4 hf
  cases some_e hf
  exact k_vret C w d_M_isKept_129
set_option maxHeartbeats 4000000 in
set_option maxRecDepth 20000 in
theorem t_M_isKept_55 {σ2 : St} (C : Cx g A p s m av meth c prog_13_method_80_code 4 "BellHammerModel" none)  {x1 : Int32} {x2 : Int32} {σ : St} {H : Heap} {locs : List Loc} {ls : Array Slot} (hf : f_M_isKept_55   x1 x2 σ = some σ2) (w : Wd g (wM g q) A s σ H locs) (hl : lv_has ls 4 [(0, .ref (q 0)), (1, .int x1), (2, .int x2)]) : WK p l e s m av below meth c 0 g (wM g q) A none σ2 H locs (F0 m 55 ls []) := by
  obtain ⟨hx, hb, hml, hown, hts, hK, hA, hZ, hlocks, hr, hN⟩ := id C
  unfold f_M_isKept_55 at hf
  refine lv_iconst (v := 5) hx hb d_M_isKept_55 (by decide) ?_
  refine lv_aload_n hx hb d_M_isKept_56 rfl (lv_at hl 0 rfl) ?_
  refine mg_0_now C w k1149 d_M_isKept_57 ?_
  refine lv_bipush (v := 6) hx hb d_M_isKept_60 (by decide) ?_
  refine ml_41 C w (by decide) d_M_isKept_62 ?_
  refine lv_imul hx hb d_M_isKept_63 ?_
  refine lv_iconst (v := 5) hx hb d_M_isKept_64 (by decide) ?_
  refine lv_isub hx hb d_M_isKept_65 ?_
  refine lv_topi (fun x_1 ex_1 => ?_)
  have hf := lt_e ex_1 hf
  refine lv_istore_n (lv' := [(3, .int x_1), (0, .ref (q 0)), (1, .int x1), (2, .int x2)]) hx hb d_M_isKept_66 rfl hl (by decide) rfl (fun ls hl => ?_)
  refine lv_aload_n hx hb d_M_isKept_67 rfl (lv_at hl 1 rfl) ?_
  refine mg_0_blows C w k1150 d_M_isKept_68 ?_
  refine lv_iload_n hx hb d_M_isKept_71 rfl (lv_at hl 0 rfl) ?_
  refine lv_aload_n hx hb d_M_isKept_72 rfl (lv_at hl 1 rfl) ?_
  refine mg_0_now C w k1149 d_M_isKept_73 ?_
  refine lv_iconst (v := 0) hx hb d_M_isKept_76 (by decide) ?_
  refine ml_41 C w (by decide) d_M_isKept_77 ?_
  obtain ⟨g_2, hf⟩ := gd_e hf
  refine ms_42 C w g_2 d_M_isKept_78 (fun σ_3 H locs eσ_3 w => ?_)
  have hf := lt_e eσ_3 hf
  refine lv_aload_n hx hb d_M_isKept_79 rfl (lv_at hl 1 rfl) ?_
  refine mg_0_blows C w k1150 d_M_isKept_80 ?_
  refine lv_iload_n hx hb d_M_isKept_83 rfl (lv_at hl 0 rfl) ?_
  refine lv_iconst (v := 1) hx hb d_M_isKept_84 (by decide) ?_
  refine lv_iadd hx hb d_M_isKept_85 ?_
  refine lv_iload_n hx hb d_M_isKept_86 rfl (lv_at hl 2 rfl) ?_
  obtain ⟨g_4, hf⟩ := gd_e hf
  refine ms_42 C w g_4 d_M_isKept_87 (fun σ_5 H locs eσ_5 w => ?_)
  have hf := lt_e eσ_5 hf
  refine lv_aload_n hx hb d_M_isKept_88 rfl (lv_at hl 1 rfl) ?_
  refine mg_0_blows C w k1150 d_M_isKept_89 ?_
  refine lv_iload_n hx hb d_M_isKept_92 rfl (lv_at hl 0 rfl) ?_
  refine lv_iconst (v := 2) hx hb d_M_isKept_93 (by decide) ?_
  refine lv_iadd hx hb d_M_isKept_94 ?_
  refine lv_iload_n hx hb d_M_isKept_95 rfl (lv_at hl 3 rfl) ?_
  obtain ⟨g_6, hf⟩ := gd_e hf
  refine ms_42 C w g_6 d_M_isKept_96 (fun σ_7 H locs eσ_7 w => ?_)
  have hf := lt_e eσ_7 hf
  refine lv_aload_n hx hb d_M_isKept_97 rfl (lv_at hl 1 rfl) ?_
  refine mg_0_blows C w k1150 d_M_isKept_98 ?_
  refine lv_iload_n hx hb d_M_isKept_101 rfl (lv_at hl 0 rfl) ?_
  refine lv_iconst (v := 3) hx hb d_M_isKept_102 (by decide) ?_
  refine lv_iadd hx hb d_M_isKept_103 ?_
  refine lv_aload_n hx hb d_M_isKept_104 rfl (lv_at hl 1 rfl) ?_
  refine mg_0_turnSlack C w k1158 d_M_isKept_105 ?_
  refine lv_if_eq (tgt := 115) hx hb d_M_isKept_108 (by decide) (fun cd => ?_) (fun cd => ?_)
  · have hf := it_e cd hf
    refine lv_iconst (v := 0) hx hb d_M_isKept_115 (by decide) ?_
    exact t_M_isKept_116 C  hf w (lv_sub hl [1, 0] rfl)
  · have hf := if_e cd hf
    refine lv_iconst (v := 1) hx hb d_M_isKept_111 (by decide) ?_
    refine lv_goto (tgt := 116) hx hb d_M_isKept_112 (by decide) ?_
    exact t_M_isKept_116 C  hf w (lv_sub hl [1, 0] rfl)
set_option maxHeartbeats 4000000 in
set_option maxRecDepth 20000 in
theorem t_M_isKept_14b {σ2 : St} (C : Cx g A p s m av meth c prog_13_method_80_code 4 "BellHammerModel" none) {k14 : Int32 → Int32 → Int32 → St → Option (St)} (hk14 : ∀ (x1 : Int32) (x2 : Int32) (x3 : Int32) (σ : St) (H : Heap) (locs : List Loc) (ls : Array Slot), k14 x1 x2 x3 σ = some σ2 → Wd g (wM g q) A s σ H locs → lv_has ls 4 [(0, .ref (q 0)), (1, .int x1), (2, .int x2), (3, .int x3)] → WK p l e s m av below meth c 0 g (wM g q) A none σ2 H locs (F0 m 14 ls []))  {x1 : Int32} {x2 : Int32} {x3 : Int32} {σ : St} {H : Heap} {locs : List Loc} {ls : Array Slot} (hf : f_M_isKept_14b  k14 x1 x2 x3 σ = some σ2) (w : Wd g (wM g q) A s σ H locs) (hl : lv_has ls 4 [(0, .ref (q 0)), (1, .int x1), (2, .int x2), (3, .int x3)]) : WK p l e s m av below meth c 0 g (wM g q) A none σ2 H locs (F0 m 14 ls []) := by
  obtain ⟨hx, hb, hml, hown, hts, hK, hA, hZ, hlocks, hr, hN⟩ := id C
  unfold f_M_isKept_14b at hf
  refine lv_iload_n hx hb d_M_isKept_14 rfl (lv_at hl 3 rfl) ?_
  refine lv_sipush (v := 295) hx hb d_M_isKept_15 (by decide) ?_
  refine lv_icmp_ge (tgt := 41) hx hb d_M_isKept_18 (by decide) (fun cd => ?_) (fun cd => ?_)
  · have hf := it_e cd hf
    refine lv_goto (tgt := 55) hx hb d_M_isKept_41 (by decide) ?_
    exact t_M_isKept_55 C  hf w (lv_sub hl [0, 1, 2] rfl)
  · have hf := if_e cd hf
    refine lv_aload_n hx hb d_M_isKept_21 rfl (lv_at hl 0 rfl) ?_
    refine mg_0_blows C w k1150 d_M_isKept_22 ?_
    refine lv_iload_n hx hb d_M_isKept_25 rfl (lv_at hl 3 rfl) ?_
    refine lv_aload_n hx hb d_M_isKept_26 rfl (lv_at hl 0 rfl) ?_
    refine mg_0_blows C w k1150 d_M_isKept_27 ?_
    refine lv_iload_n hx hb d_M_isKept_30 rfl (lv_at hl 3 rfl) ?_
    refine lv_iconst (v := 5) hx hb d_M_isKept_31 (by decide) ?_
    refine lv_iadd hx hb d_M_isKept_32 ?_
    obtain ⟨g_1, hf⟩ := gd_e hf
    refine ml_42 C w g_1 d_M_isKept_33 ?_
    obtain ⟨g_2, hf⟩ := gd_e hf
    refine ms_42 C w g_2 d_M_isKept_34 (fun σ_3 H locs eσ_3 w => ?_)
    have hf := lt_e eσ_3 hf
    obtain ⟨x_4, ex_4⟩ : ∃ y : Int32, y = (x3 + 1) := ⟨_, rfl⟩
    have hf := lt_e ex_4 hf
    refine lv_iinc (v := x_4) (lv' := [(3, .int x_4), (0, .ref (q 0)), (1, .int x1), (2, .int x2)]) hx hb d_M_isKept_35 hl (k := 3) rfl (by rw [ex_4]; rfl) (by decide) rfl (fun ls hl => ?_)
    refine lv_goto (tgt := 14) hx hb d_M_isKept_38 (by decide) ?_
    exact hk14 x1 x2 x_4 σ_3 _ _ _ hf w (lv_sub hl [1, 2, 3, 0] rfl)
set_option maxHeartbeats 4000000 in
set_option maxRecDepth 20000 in
theorem t_M_isKept_14 {σ2 : St} (C : Cx g A p s m av meth c prog_13_method_80_code 4 "BellHammerModel" none)  : ∀ (n : Nat) (x1 : Int32) (x2 : Int32) (x3 : Int32) (σ : St) (H : Heap) (locs : List Loc) (ls : Array Slot), f_M_isKept_14   n x1 x2 x3 σ = some σ2 → Wd g (wM g q) A s σ H locs → lv_has ls 4 [(0, .ref (q 0)), (1, .int x1), (2, .int x2), (3, .int x3)] → WK p l e s m av below meth c 0 g (wM g q) A none σ2 H locs (F0 m 14 ls []) := by
  intro n
  induction n with
  | zero => intro x1 x2 x3 σ H locs ls hf; exact absurd hf (by intro z; cases z)
  | succ n ih => intro x1 x2 x3 σ H locs ls hf w hl; exact t_M_isKept_14b C  ih hf w hl
set_option maxHeartbeats 4000000 in
set_option maxRecDepth 20000 in
theorem c_M_isKept {l : Launch} {g : GX} {q : Nat → Nat} {x1 : Int32} {x2 : Int32}  {σ : St} {σ2 : St} (hf : f_M_isKept  x1 x2 σ = some σ2) : KK l y_M_isKept prog_13_method_80_code 4 none 0 g (wM g q) σ [.ref (q 0), .int x1, .int x2] none (wM g q) σ2 := by
  refine KK_of (plainFor_of_name (by decide)) (Nat.le_of_ble_eq_true rfl) (fun p e s m below meth c A ls C w hl => ?_)
  have hl : lv_has ls 4 [(0, .ref (q 0)), (1, .int x1), (2, .int x2)] := hl
  obtain ⟨hx, hb, hml, hown, hts, hK, hA, hZ, hlocks, hr, hN⟩ := id C
  unfold f_M_isKept at hf
  refine lv_aload_n hx hb d_M_isKept_0 rfl (lv_at hl 0 rfl) ?_
  refine mg_0_now C w k1149 d_M_isKept_1 ?_
  refine lv_bipush (v := 6) hx hb d_M_isKept_4 (by decide) ?_
  refine ml_41 C w (by decide) d_M_isKept_6 ?_
  refine lv_bipush (v := 60) hx hb d_M_isKept_7 (by decide) ?_
  refine lv_icmp_ne (tgt := 44) hx hb d_M_isKept_9 (by decide) (fun cd => ?_) (fun cd => ?_)
  · have hf := if_e cd hf
    refine lv_aload_n hx hb d_M_isKept_44 rfl (lv_at hl 0 rfl) ?_
    refine mg_0_now C w k1149 d_M_isKept_45 ?_
    refine lv_bipush (v := 6) hx hb d_M_isKept_48 (by decide) ?_
    refine lv_dup2_11 hx hb d_M_isKept_50 rfl rfl ?_
    refine ml_41 C w (by decide) d_M_isKept_51 ?_
    refine lv_iconst (v := 1) hx hb d_M_isKept_52 (by decide) ?_
    refine lv_iadd hx hb d_M_isKept_53 ?_
    refine ms_41 C w (by decide) d_M_isKept_54 (fun σ_1 H locs eσ_1 w => ?_)
    have hf := lt_e eσ_1 hf
    exact t_M_isKept_55 C  hf w (lv_sub hl [0, 1, 2] rfl)
  · have hf := it_e cd hf
    refine lv_iconst (v := 0) hx hb d_M_isKept_12 (by decide) ?_
    refine lv_istore_n (lv' := [(3, .int 0), (0, .ref (q 0)), (1, .int x1), (2, .int x2)]) hx hb d_M_isKept_13 rfl hl (by decide) rfl (fun ls hl => ?_)
    exact t_M_isKept_14 C  FU x1 x2 0 σ _ _ _ hf w (lv_sub hl [1, 2, 3, 0] rfl)
def f_M_night_89b (k76 : Int32 → Int32 → St → Option (Int32 × St)) (k89 : Int32 → Int32 → St → Option (Int32 × St)) (x1 : Int32) (x2 : Int32) (σ : St) : Option (Int32 × St) :=
  bp (f_M_strikes x2 σ) fun r_2 =>
  if r_2 = 0 then
    lt ((x2 + 1)) fun x_3 =>
    k76 x1 x_3 σ
  else
    bp (f_M_trierOf x2 1 σ) fun r_5 =>
    bd (f_M_drawOf (r_5 + 1) σ) fun r_7 σ_8 =>
    bp (f_M_blow x2 r_7 σ_8) fun σ_10 =>
    bp (f_M_isKept x2 r_7 σ_10) fun σ_12 =>
    lt ((x1 + (sA σ_12 11 (5 : Int32).toNatClampNeg))) fun x_13 =>
    k89 x_13 x2 σ_12
def f_M_night_89 (k76 : Int32 → Int32 → St → Option (Int32 × St)) : Nat → Int32 → Int32 → St → Option (Int32 × St)
  | 0 => fun _ _ _ => none
  | n + 1 => f_M_night_89b  k76 (f_M_night_89  k76 n)
def f_M_night_76b (k76 : Int32 → Int32 → St → Option (Int32 × St)) (x1 : Int32) (x2 : Int32) (σ : St) : Option (Int32 × St) :=
  bp (f_M_trierMany σ) fun r_2 =>
  if r_2 ≤ x2 then
    lt (uA σ 11 (upd (sA σ 11) (1 : Int32).toNatClampNeg ((sA σ 11 (1 : Int32).toNatClampNeg) + x1))) fun σ_3 =>
    some (x1, σ_3)
  else
    bp (f_M_begins x2 σ) fun σ_5 =>
    f_M_night_89 k76 FU x1 x2 σ_5
def f_M_night_76 : Nat → Int32 → Int32 → St → Option (Int32 × St)
  | 0 => fun _ _ _ => none
  | n + 1 => f_M_night_76b   (f_M_night_76   n)
def f_M_night (σ : St) : Option (Int32 × St) :=
  if (sA σ 11 (0 : Int32).toNatClampNeg) = 999 then
    lt (uA σ 1 (upd (sA σ 1) (2 : Int32).toNatClampNeg ((sA σ 1 (2 : Int32).toNatClampNeg) + 1))) fun σ_10 =>
    some ((-1), σ_10)
  else
    bp (f_M_keeps σ) fun σ_2 =>
    lt (uA σ_2 11 (upd (sA σ_2 11) (0 : Int32).toNatClampNeg ((sA σ_2 11 (0 : Int32).toNatClampNeg) + 1))) fun σ_3 =>
    lt (uI σ_3 15 (sA σ_3 11 (2 : Int32).toNatClampNeg)) fun σ_4 =>
    lt (uI σ_4 16 (sA σ_4 11 (3 : Int32).toNatClampNeg)) fun σ_5 =>
    bp (f_M_toldOf 4 σ_5) fun r_7 =>
    lt (uI σ_5 17 r_7) fun σ_8 =>
    lt (uI σ_8 18 0) fun σ_9 =>
    f_M_night_76 FU 0 0 σ_9
set_option maxHeartbeats 4000000 in
set_option maxRecDepth 20000 in
theorem t_M_night_89b {r : Int32} {σ2 : St} (C : Cx g A p s m av meth c prog_13_method_83_code 4 "BellHammerModel" (some .int)) {k76 : Int32 → Int32 → St → Option (Int32 × St)} (hk76 : ∀ (x1 : Int32) (x2 : Int32) (σ : St) (H : Heap) (locs : List Loc) (ls : Array Slot), k76 x1 x2 σ = some (r, σ2) → Wd g (wM g q) A s σ H locs → lv_has ls 4 [(0, .ref (q 0)), (1, .int x1), (2, .int x2)] → WK p l e s m av below meth c 5 g (wM g q) A (some (.int r)) σ2 H locs (F0 m 76 ls [])) {k89 : Int32 → Int32 → St → Option (Int32 × St)} (hk89 : ∀ (x1 : Int32) (x2 : Int32) (σ : St) (H : Heap) (locs : List Loc) (ls : Array Slot), k89 x1 x2 σ = some (r, σ2) → Wd g (wM g q) A s σ H locs → lv_has ls 4 [(0, .ref (q 0)), (1, .int x1), (2, .int x2)] → WK p l e s m av below meth c 5 g (wM g q) A (some (.int r)) σ2 H locs (F0 m 89 ls []))  {x1 : Int32} {x2 : Int32} {σ : St} {H : Heap} {locs : List Loc} {ls : Array Slot} (hf : f_M_night_89b  k76 k89 x1 x2 σ = some (r, σ2)) (w : Wd g (wM g q) A s σ H locs) (hl : lv_has ls 4 [(0, .ref (q 0)), (1, .int x1), (2, .int x2)]) : WK p l e s m av below meth c 5 g (wM g q) A (some (.int r)) σ2 H locs (F0 m 89 ls []) := by
  obtain ⟨hx, hb, hml, hown, hts, hK, hA, hZ, hlocks, hr, hN⟩ := id C
  unfold f_M_night_89b at hf
  refine lv_aload_n hx hb d_M_night_89 rfl (lv_at hl 0 rfl) ?_
  refine lv_iload_n hx hb d_M_night_90 rfl (lv_at hl 2 rfl) ?_
  obtain ⟨r_2, h_1, hf⟩ := bp_e hf
  refine k_callV (As := [.int x2]) (rest := []) C w (c_M_strikes (q := q) h_1) cv_M_strikes k1618 (mr_0 C w) (by decide) hl.1 rfl (Nat.le_of_ble_eq_true rfl) d_M_night_91 (fun H locs w => ?_)
  show WK p l e s m av below meth c 5 g (wM g q) A (some (.int r)) σ2 H locs (F0 m 94 ls [.int r_2])
  refine lv_if_eq (tgt := 134) hx hb d_M_night_94 (by decide) (fun cd => ?_) (fun cd => ?_)
  · have hf := it_e cd hf
    obtain ⟨x_3, ex_3⟩ : ∃ y : Int32, y = (x2 + 1) := ⟨_, rfl⟩
    have hf := lt_e ex_3 hf
    refine lv_iinc (v := x_3) (lv' := [(2, .int x_3), (0, .ref (q 0)), (1, .int x1)]) hx hb d_M_night_134 hl (k := 2) rfl (by rw [ex_3]; rfl) (by decide) rfl (fun ls hl => ?_)
    refine lv_goto (tgt := 76) hx hb d_M_night_137 (by decide) ?_
    exact hk76 x1 x_3 σ _ _ _ hf w (lv_sub hl [1, 2, 0] rfl)
  · have hf := if_e cd hf
    refine lv_aload_n hx hb d_M_night_97 rfl (lv_at hl 0 rfl) ?_
    refine lv_aload_n hx hb d_M_night_98 rfl (lv_at hl 0 rfl) ?_
    refine lv_iload_n hx hb d_M_night_99 rfl (lv_at hl 2 rfl) ?_
    refine lv_iconst (v := 1) hx hb d_M_night_100 (by decide) ?_
    obtain ⟨r_5, h_4, hf⟩ := bp_e hf
    refine k_callV (As := [.int x2, .int 1]) (rest := [.ref (q 0)]) C w (c_M_trierOf (q := q) h_4) cv_M_trierOf k1534 (mr_0 C w) (by decide) hl.1 rfl (Nat.le_of_ble_eq_true rfl) d_M_night_101 (fun H locs w => ?_)
    show WK p l e s m av below meth c 5 g (wM g q) A (some (.int r)) σ2 H locs (F0 m 104 ls [.int r_5, .ref (q 0)])
    refine lv_iconst (v := 1) hx hb d_M_night_104 (by decide) ?_
    refine lv_iadd hx hb d_M_night_105 ?_
    obtain ⟨r_7, σ_8, h_6, hf⟩ := bd_e hf
    refine k_callV (As := [.int (r_5 + 1)]) (rest := []) C w (c_M_drawOf (q := q) h_6) cv_M_drawOf k1669 (mr_0 C w) (by decide) hl.1 rfl (Nat.le_of_ble_eq_true rfl) d_M_night_106 (fun H locs w => ?_)
    show WK p l e s m av below meth c 5 g (wM g q) A (some (.int r)) σ2 H locs (F0 m 109 ls [.int r_7])
    refine lv_istore_n (lv' := [(3, .int r_7), (0, .ref (q 0)), (1, .int x1), (2, .int x2)]) hx hb d_M_night_109 rfl hl (by decide) rfl (fun ls hl => ?_)
    refine lv_aload_n hx hb d_M_night_110 rfl (lv_at hl 1 rfl) ?_
    refine lv_iload_n hx hb d_M_night_111 rfl (lv_at hl 3 rfl) ?_
    refine lv_iload_n hx hb d_M_night_112 rfl (lv_at hl 0 rfl) ?_
    obtain ⟨σ_10, h_9, hf⟩ := bp_e hf
    refine k_callV (As := [.int x2, .int r_7]) (rest := []) C w (c_M_blow (q := q) h_9) cv_M_blow k1622 (mr_0 C w) (by decide) hl.1 rfl (Nat.le_of_ble_eq_true rfl) d_M_night_113 (fun H locs w => ?_)
    show WK p l e s m av below meth c 5 g (wM g q) A (some (.int r)) σ2 H locs (F0 m 116 ls [])
    refine lv_aload_n hx hb d_M_night_116 rfl (lv_at hl 1 rfl) ?_
    refine lv_iload_n hx hb d_M_night_117 rfl (lv_at hl 3 rfl) ?_
    refine lv_iload_n hx hb d_M_night_118 rfl (lv_at hl 0 rfl) ?_
    obtain ⟨σ_12, h_11, hf⟩ := bp_e hf
    refine k_callV (As := [.int x2, .int r_7]) (rest := []) C w (c_M_isKept (q := q) h_11) cv_M_isKept k1677 (mr_0 C w) (by decide) hl.1 rfl (Nat.le_of_ble_eq_true rfl) d_M_night_119 (fun H locs w => ?_)
    show WK p l e s m av below meth c 5 g (wM g q) A (some (.int r)) σ2 H locs (F0 m 122 ls [])
    refine lv_iload_n hx hb d_M_night_122 rfl (lv_at hl 2 rfl) ?_
    refine lv_aload_n hx hb d_M_night_123 rfl (lv_at hl 1 rfl) ?_
    refine mg_0_now C w k1149 d_M_night_124 ?_
    refine lv_iconst (v := 5) hx hb d_M_night_127 (by decide) ?_
    refine ml_41 C w (by decide) d_M_night_128 ?_
    refine lv_iadd hx hb d_M_night_129 ?_
    refine lv_topi (fun x_13 ex_13 => ?_)
    have hf := lt_e ex_13 hf
    refine lv_istore_n (lv' := [(1, .int x_13), (3, .int r_7), (0, .ref (q 0)), (2, .int x2)]) hx hb d_M_night_130 rfl hl (by decide) rfl (fun ls hl => ?_)
    refine lv_goto (tgt := 89) hx hb d_M_night_131 (by decide) ?_
    exact hk89 x_13 x2 σ_12 _ _ _ hf w (lv_sub hl [2, 0, 3] rfl)
set_option maxHeartbeats 4000000 in
set_option maxRecDepth 20000 in
theorem t_M_night_89 {r : Int32} {σ2 : St} (C : Cx g A p s m av meth c prog_13_method_83_code 4 "BellHammerModel" (some .int)) {k76 : Int32 → Int32 → St → Option (Int32 × St)} (hk76 : ∀ (x1 : Int32) (x2 : Int32) (σ : St) (H : Heap) (locs : List Loc) (ls : Array Slot), k76 x1 x2 σ = some (r, σ2) → Wd g (wM g q) A s σ H locs → lv_has ls 4 [(0, .ref (q 0)), (1, .int x1), (2, .int x2)] → WK p l e s m av below meth c 5 g (wM g q) A (some (.int r)) σ2 H locs (F0 m 76 ls []))  : ∀ (n : Nat) (x1 : Int32) (x2 : Int32) (σ : St) (H : Heap) (locs : List Loc) (ls : Array Slot), f_M_night_89  k76 n x1 x2 σ = some (r, σ2) → Wd g (wM g q) A s σ H locs → lv_has ls 4 [(0, .ref (q 0)), (1, .int x1), (2, .int x2)] → WK p l e s m av below meth c 5 g (wM g q) A (some (.int r)) σ2 H locs (F0 m 89 ls []) := by
  intro n
  induction n with
  | zero => intro x1 x2 σ H locs ls hf; exact absurd hf (by intro z; cases z)
  | succ n ih => intro x1 x2 σ H locs ls hf w hl; exact t_M_night_89b C hk76 ih hf w hl
set_option maxHeartbeats 4000000 in
set_option maxRecDepth 20000 in
theorem t_M_night_76b {r : Int32} {σ2 : St} (C : Cx g A p s m av meth c prog_13_method_83_code 4 "BellHammerModel" (some .int)) {k76 : Int32 → Int32 → St → Option (Int32 × St)} (hk76 : ∀ (x1 : Int32) (x2 : Int32) (σ : St) (H : Heap) (locs : List Loc) (ls : Array Slot), k76 x1 x2 σ = some (r, σ2) → Wd g (wM g q) A s σ H locs → lv_has ls 4 [(0, .ref (q 0)), (1, .int x1), (2, .int x2)] → WK p l e s m av below meth c 5 g (wM g q) A (some (.int r)) σ2 H locs (F0 m 76 ls []))  {x1 : Int32} {x2 : Int32} {σ : St} {H : Heap} {locs : List Loc} {ls : Array Slot} (hf : f_M_night_76b  k76 x1 x2 σ = some (r, σ2)) (w : Wd g (wM g q) A s σ H locs) (hl : lv_has ls 4 [(0, .ref (q 0)), (1, .int x1), (2, .int x2)]) : WK p l e s m av below meth c 5 g (wM g q) A (some (.int r)) σ2 H locs (F0 m 76 ls []) := by
  obtain ⟨hx, hb, hml, hown, hts, hK, hA, hZ, hlocks, hr, hN⟩ := id C
  unfold f_M_night_76b at hf
  refine lv_iload_n hx hb d_M_night_76 rfl (lv_at hl 2 rfl) ?_
  refine lv_aload_n hx hb d_M_night_77 rfl (lv_at hl 0 rfl) ?_
  obtain ⟨r_2, h_1, hf⟩ := bp_e hf
  refine k_callV (As := []) (rest := [.int x2]) C w (c_M_trierMany (q := q) h_1) cv_M_trierMany k1509 (mr_0 C w) (by decide) hl.1 rfl (Nat.le_of_ble_eq_true rfl) d_M_night_78 (fun H locs w => ?_)
  show WK p l e s m av below meth c 5 g (wM g q) A (some (.int r)) σ2 H locs (F0 m 81 ls [.int r_2, .int x2])
  refine lv_icmp_ge (tgt := 140) hx hb d_M_night_81 (by decide) (fun cd => ?_) (fun cd => ?_)
  · have hf := it_e cd hf
    refine lv_aload_n hx hb d_M_night_140 rfl (lv_at hl 0 rfl) ?_
    refine mg_0_now C w k1149 d_M_night_141 ?_
    refine lv_iconst (v := 1) hx hb d_M_night_144 (by decide) ?_
    refine lv_dup2_11 hx hb d_M_night_145 rfl rfl ?_
    refine ml_41 C w (by decide) d_M_night_146 ?_
    refine lv_iload_n hx hb d_M_night_147 rfl (lv_at hl 1 rfl) ?_
    refine lv_iadd hx hb d_M_night_148 ?_
    refine ms_41 C w (by decide) d_M_night_149 (fun σ_3 H locs eσ_3 w => ?_)
    have hf := lt_e eσ_3 hf
    refine lv_iload_n hx hb d_M_night_150 rfl (lv_at hl 1 rfl) ?_
    obtain ⟨rfl, rfl⟩ := some2_e hf
    exact k_iret C w d_M_night_151
  · have hf := if_e cd hf
    refine lv_aload_n hx hb d_M_night_84 rfl (lv_at hl 0 rfl) ?_
    refine lv_iload_n hx hb d_M_night_85 rfl (lv_at hl 2 rfl) ?_
    obtain ⟨σ_5, h_4, hf⟩ := bp_e hf
    refine k_callV (As := [.int x2]) (rest := []) C w (c_M_begins (q := q) h_4) cv_M_begins k1614 (mr_0 C w) (by decide) hl.1 rfl (Nat.le_of_ble_eq_true rfl) d_M_night_86 (fun H locs w => ?_)
    show WK p l e s m av below meth c 5 g (wM g q) A (some (.int r)) σ2 H locs (F0 m 89 ls [])
    exact t_M_night_89 C hk76 FU x1 x2 σ_5 _ _ _ hf w (lv_sub hl [0, 1, 2] rfl)
set_option maxHeartbeats 4000000 in
set_option maxRecDepth 20000 in
theorem t_M_night_76 {r : Int32} {σ2 : St} (C : Cx g A p s m av meth c prog_13_method_83_code 4 "BellHammerModel" (some .int))  : ∀ (n : Nat) (x1 : Int32) (x2 : Int32) (σ : St) (H : Heap) (locs : List Loc) (ls : Array Slot), f_M_night_76   n x1 x2 σ = some (r, σ2) → Wd g (wM g q) A s σ H locs → lv_has ls 4 [(0, .ref (q 0)), (1, .int x1), (2, .int x2)] → WK p l e s m av below meth c 5 g (wM g q) A (some (.int r)) σ2 H locs (F0 m 76 ls []) := by
  intro n
  induction n with
  | zero => intro x1 x2 σ H locs ls hf; exact absurd hf (by intro z; cases z)
  | succ n ih => intro x1 x2 σ H locs ls hf w hl; exact t_M_night_76b C  ih hf w hl
set_option maxHeartbeats 4000000 in
set_option maxRecDepth 20000 in
theorem c_M_night {l : Launch} {g : GX} {q : Nat → Nat}  {σ : St} {r : Int32} {σ2 : St} (hf : f_M_night   σ = some (r, σ2)) : KK l y_M_night prog_13_method_83_code 4 (some .int) 5 g (wM g q) σ [.ref (q 0)] (some (.int r)) (wM g q) σ2 := by
  refine KK_of (plainFor_of_name (by decide)) (Nat.le_of_ble_eq_true rfl) (fun p e s m below meth c A ls C w hl => ?_)
  have hl : lv_has ls 4 [(0, .ref (q 0))] := hl
  obtain ⟨hx, hb, hml, hown, hts, hK, hA, hZ, hlocks, hr, hN⟩ := id C
  unfold f_M_night at hf
  refine lv_aload_n hx hb d_M_night_0 rfl (lv_at hl 0 rfl) ?_
  refine mg_0_now C w k1149 d_M_night_1 ?_
  refine lv_iconst (v := 0) hx hb d_M_night_4 (by decide) ?_
  refine ml_41 C w (by decide) d_M_night_5 ?_
  refine lv_sipush (v := 999) hx hb d_M_night_6 (by decide) ?_
  refine lv_icmp_ne (tgt := 24) hx hb d_M_night_9 (by decide) (fun cd => ?_) (fun cd => ?_)
  · have hf := if_e cd hf
    refine lv_aload_n hx hb d_M_night_24 rfl (lv_at hl 0 rfl) ?_
    obtain ⟨σ_2, h_1, hf⟩ := bp_e hf
    refine k_callV (As := []) (rest := []) C w (c_M_keeps (q := q) h_1) cv_M_keeps k1665 (mr_0 C w) (by decide) hl.1 rfl (Nat.le_of_ble_eq_true rfl) d_M_night_25 (fun H locs w => ?_)
    show WK p l e s m _ below meth c 5 g (wM g q) A (some (.int r)) σ2 H locs (F0 m 28 ls [])
    refine lv_aload_n hx hb d_M_night_28 rfl (lv_at hl 0 rfl) ?_
    refine mg_0_now C w k1149 d_M_night_29 ?_
    refine lv_iconst (v := 0) hx hb d_M_night_32 (by decide) ?_
    refine lv_dup2_11 hx hb d_M_night_33 rfl rfl ?_
    refine ml_41 C w (by decide) d_M_night_34 ?_
    refine lv_iconst (v := 1) hx hb d_M_night_35 (by decide) ?_
    refine lv_iadd hx hb d_M_night_36 ?_
    refine ms_41 C w (by decide) d_M_night_37 (fun σ_3 H locs eσ_3 w => ?_)
    have hf := lt_e eσ_3 hf
    refine lv_aload_n hx hb d_M_night_38 rfl (lv_at hl 0 rfl) ?_
    refine lv_aload_n hx hb d_M_night_39 rfl (lv_at hl 0 rfl) ?_
    refine mg_0_now C w k1149 d_M_night_40 ?_
    refine lv_iconst (v := 2) hx hb d_M_night_43 (by decide) ?_
    refine ml_41 C w (by decide) d_M_night_44 ?_
    refine mp_0_turnRules C w k1151 d_M_night_45 (fun σ_4 H locs eσ_4 w => ?_)
    have hf := lt_e eσ_4 hf
    refine lv_aload_n hx hb d_M_night_48 rfl (lv_at hl 0 rfl) ?_
    refine lv_aload_n hx hb d_M_night_49 rfl (lv_at hl 0 rfl) ?_
    refine mg_0_now C w k1149 d_M_night_50 ?_
    refine lv_iconst (v := 3) hx hb d_M_night_53 (by decide) ?_
    refine ml_41 C w (by decide) d_M_night_54 ?_
    refine mp_0_turnBell C w k1152 d_M_night_55 (fun σ_5 H locs eσ_5 w => ?_)
    have hf := lt_e eσ_5 hf
    refine lv_aload_n hx hb d_M_night_58 rfl (lv_at hl 0 rfl) ?_
    refine lv_aload_n hx hb d_M_night_59 rfl (lv_at hl 0 rfl) ?_
    refine lv_iconst (v := 4) hx hb d_M_night_60 (by decide) ?_
    obtain ⟨r_7, h_6, hf⟩ := bp_e hf
    refine k_callV (As := [.int 4]) (rest := [.ref (q 0)]) C w (c_M_toldOf (q := q) h_6) cv_M_toldOf k1517 (mr_0 C w) (by decide) hl.1 rfl (Nat.le_of_ble_eq_true rfl) d_M_night_61 (fun H locs w => ?_)
    show WK p l e s m _ below meth c 5 g (wM g q) A (some (.int r)) σ2 H locs (F0 m 64 ls [.int r_7, .ref (q 0)])
    refine mp_0_turnCrowd C w k1153 d_M_night_64 (fun σ_8 H locs eσ_8 w => ?_)
    have hf := lt_e eσ_8 hf
    refine lv_aload_n hx hb d_M_night_67 rfl (lv_at hl 0 rfl) ?_
    refine lv_iconst (v := 0) hx hb d_M_night_68 (by decide) ?_
    refine mp_0_turnRings C w k1154 d_M_night_69 (fun σ_9 H locs eσ_9 w => ?_)
    have hf := lt_e eσ_9 hf
    refine lv_iconst (v := 0) hx hb d_M_night_72 (by decide) ?_
    refine lv_istore_n (lv' := [(1, .int 0), (0, .ref (q 0))]) hx hb d_M_night_73 rfl hl (by decide) rfl (fun ls hl => ?_)
    refine lv_iconst (v := 0) hx hb d_M_night_74 (by decide) ?_
    refine lv_istore_n (lv' := [(2, .int 0), (1, .int 0), (0, .ref (q 0))]) hx hb d_M_night_75 rfl hl (by decide) rfl (fun ls hl => ?_)
    exact t_M_night_76 C  FU 0 0 σ_9 _ _ _ hf w (lv_sub hl [2, 1, 0] rfl)
  · have hf := it_e cd hf
    refine lv_aload_n hx hb d_M_night_12 rfl (lv_at hl 0 rfl) ?_
    refine mg_0_refused C w k1103 d_M_night_13 ?_
    refine lv_iconst (v := 2) hx hb d_M_night_16 (by decide) ?_
    refine lv_dup2_11 hx hb d_M_night_17 rfl rfl ?_
    refine ml_29 C w (by decide) d_M_night_18 ?_
    refine lv_iconst (v := 1) hx hb d_M_night_19 (by decide) ?_
    refine lv_iadd hx hb d_M_night_20 ?_
    refine ms_29 C w (by decide) d_M_night_21 (fun σ_10 H locs eσ_10 w => ?_)
    have hf := lt_e eσ_10 hf
    refine lv_iconst (v := (-1)) hx hb d_M_night_22 (by decide) ?_
    obtain ⟨rfl, rfl⟩ := some2_e hf
    exact k_iret C w d_M_night_23
def f_M_rule_39 (σ : St) : Option (Int32 × St) :=
  lt (uA σ 1 (upd (sA σ 1) (3 : Int32).toNatClampNeg ((sA σ 1 (3 : Int32).toNatClampNeg) + 1))) fun σ_1 =>
  some (0, σ_1)
def f_M_rule_35 (x1 : Int32) (x2 : Int32) (t0 : Int32) (σ : St) : Option (Int32 × St) :=
  if t0 = x2 then
    f_M_rule_39 σ
  else
    bp (f_M_keeps σ) fun σ_2 =>
    lt (uA σ_2 11 (upd (sA σ_2 11) (2 : Int32).toNatClampNeg ((sA σ_2 11 (2 : Int32).toNatClampNeg) ^^^ (1 <<< (x1 &&& 31))))) fun σ_3 =>
    some (1, σ_3)
def f_M_rule (x1 : Int32) (x2 : Int32) (σ : St) : Option (Int32 × St) :=
  bp (f_M_ruleMany σ) fun r_2 =>
  bp (f_M_isIn ((x1).toInt64) 0 (((r_2 - 1)).toInt64) σ) fun r_4 =>
  if r_4 = 0 then
    f_M_rule_39 σ
  else
    if (((sA σ 11 (2 : Int32).toNatClampNeg) >>> (x1 &&& 31)) &&& 1) = 1 then
      f_M_rule_35 x1 x2 1 σ
    else
      f_M_rule_35 x1 x2 0 σ
set_option maxHeartbeats 4000000 in
set_option maxRecDepth 20000 in
theorem t_M_rule_39 {r : Int32} {σ2 : St} (C : Cx g A p s m av meth c prog_13_method_84_code 3 "BellHammerModel" (some .boolean))  {σ : St} {H : Heap} {locs : List Loc} {ls : Array Slot} (hf : f_M_rule_39    σ = some (r, σ2)) (w : Wd g (wM g q) A s σ H locs) (hl : lv_has ls 3 [(0, .ref (q 0))]) : WK p l e s m av below meth c 1 g (wM g q) A (some (.int r)) σ2 H locs (F0 m 39 ls []) := by
  obtain ⟨hx, hb, hml, hown, hts, hK, hA, hZ, hlocks, hr, hN⟩ := id C
  unfold f_M_rule_39 at hf
  refine lv_aload_n hx hb d_M_rule_39 rfl (lv_at hl 0 rfl) ?_
  refine mg_0_refused C w k1103 d_M_rule_40 ?_
  refine lv_iconst (v := 3) hx hb d_M_rule_43 (by decide) ?_
  refine lv_dup2_11 hx hb d_M_rule_44 rfl rfl ?_
  refine ml_29 C w (by decide) d_M_rule_45 ?_
  refine lv_iconst (v := 1) hx hb d_M_rule_46 (by decide) ?_
  refine lv_iadd hx hb d_M_rule_47 ?_
  refine ms_29 C w (by decide) d_M_rule_48 (fun σ_1 H locs eσ_1 w => ?_)
  have hf := lt_e eσ_1 hf
  refine lv_iconst (v := 0) hx hb d_M_rule_49 (by decide) ?_
  obtain ⟨rfl, rfl⟩ := some2_e hf
  exact k_zret C w (by decide) d_M_rule_50
set_option maxHeartbeats 4000000 in
set_option maxRecDepth 20000 in
theorem t_M_rule_35 {r : Int32} {σ2 : St} (C : Cx g A p s m av meth c prog_13_method_84_code 3 "BellHammerModel" (some .boolean))  {x1 : Int32} {x2 : Int32} {t0 : Int32} {σ : St} {H : Heap} {locs : List Loc} {ls : Array Slot} (hf : f_M_rule_35   x1 x2 t0 σ = some (r, σ2)) (w : Wd g (wM g q) A s σ H locs) (hl : lv_has ls 3 [(0, .ref (q 0)), (1, .int x1), (2, .int x2)]) : WK p l e s m av below meth c 1 g (wM g q) A (some (.int r)) σ2 H locs (F0 m 35 ls [.int t0]) := by
  obtain ⟨hx, hb, hml, hown, hts, hK, hA, hZ, hlocks, hr, hN⟩ := id C
  unfold f_M_rule_35 at hf
  refine lv_iload_n hx hb d_M_rule_35 rfl (lv_at hl 2 rfl) ?_
  refine lv_icmp_ne (tgt := 51) hx hb d_M_rule_36 (by decide) (fun cd => ?_) (fun cd => ?_)
  · have hf := if_e cd hf
    refine lv_aload_n hx hb d_M_rule_51 rfl (lv_at hl 0 rfl) ?_
    obtain ⟨σ_2, h_1, hf⟩ := bp_e hf
    refine k_callV (As := []) (rest := []) C w (c_M_keeps (q := q) h_1) cv_M_keeps k1665 (mr_0 C w) (by decide) hl.1 rfl (Nat.le_of_ble_eq_true rfl) d_M_rule_52 (fun H locs w => ?_)
    show WK p l e s m av below meth c 1 g (wM g q) A (some (.int r)) σ2 H locs (F0 m 55 ls [])
    refine lv_aload_n hx hb d_M_rule_55 rfl (lv_at hl 0 rfl) ?_
    refine mg_0_now C w k1149 d_M_rule_56 ?_
    refine lv_iconst (v := 2) hx hb d_M_rule_59 (by decide) ?_
    refine lv_dup2_11 hx hb d_M_rule_60 rfl rfl ?_
    refine ml_41 C w (by decide) d_M_rule_61 ?_
    refine lv_iconst (v := 1) hx hb d_M_rule_62 (by decide) ?_
    refine lv_iload_n hx hb d_M_rule_63 rfl (lv_at hl 1 rfl) ?_
    refine lv_ishl hx hb d_M_rule_64 ?_
    refine lv_ixor hx hb d_M_rule_65 ?_
    refine ms_41 C w (by decide) d_M_rule_66 (fun σ_3 H locs eσ_3 w => ?_)
    have hf := lt_e eσ_3 hf
    refine lv_iconst (v := 1) hx hb d_M_rule_67 (by decide) ?_
    obtain ⟨rfl, rfl⟩ := some2_e hf
    exact k_zret C w (by decide) d_M_rule_68
  · have hf := it_e cd hf
    exact t_M_rule_39 C  hf w (lv_sub hl [0] rfl)
set_option maxHeartbeats 4000000 in
set_option maxRecDepth 20000 in
theorem c_M_rule {l : Launch} {g : GX} {q : Nat → Nat} {x1 : Int32} {x2 : Int32}  {σ : St} {r : Int32} {σ2 : St} (hf : f_M_rule  x1 x2 σ = some (r, σ2)) : KK l y_M_rule prog_13_method_84_code 3 (some .boolean) 1 g (wM g q) σ [.ref (q 0), .int x1, .int x2] (some (.int r)) (wM g q) σ2 := by
  refine KK_of (plainFor_of_name (by decide)) (Nat.le_of_ble_eq_true rfl) (fun p e s m below meth c A ls C w hl => ?_)
  have hl : lv_has ls 3 [(0, .ref (q 0)), (1, .int x1), (2, .int x2)] := hl
  obtain ⟨hx, hb, hml, hown, hts, hK, hA, hZ, hlocks, hr, hN⟩ := id C
  unfold f_M_rule at hf
  refine lv_iload_n hx hb d_M_rule_0 rfl (lv_at hl 1 rfl) ?_
  refine lv_i2l hx hb d_M_rule_1 rfl ?_
  refine lv_lconst (v := 0) hx hb d_M_rule_2 (by decide) ?_
  refine lv_aload_n hx hb d_M_rule_3 rfl (lv_at hl 0 rfl) ?_
  obtain ⟨r_2, h_1, hf⟩ := bp_e hf
  refine k_callV (As := []) (rest := [.long 0, .long (x1).toInt64]) C w (c_M_ruleMany (q := q) h_1) cv_M_ruleMany k1513 (mr_0 C w) (by decide) hl.1 rfl (Nat.le_of_ble_eq_true rfl) d_M_rule_4 (fun H locs w => ?_)
  show WK p l e s m _ below meth c 1 g (wM g q) A (some (.int r)) σ2 H locs (F0 m 7 ls [.int r_2, .long 0, .long (x1).toInt64])
  refine lv_iconst (v := 1) hx hb d_M_rule_7 (by decide) ?_
  refine lv_isub hx hb d_M_rule_8 ?_
  refine lv_i2l hx hb d_M_rule_9 rfl ?_
  obtain ⟨r_4, h_3, hf⟩ := bp_e hf
  refine k_callS (As := [.long (x1).toInt64, .long 0, .long ((r_2 - 1)).toInt64]) (rest := []) C w (c_M_isIn (q := q) h_3) cv_M_isIn k1410 (by decide) hl.1 rfl (Nat.le_of_ble_eq_true rfl) d_M_rule_10 (fun H locs w => ?_)
  show WK p l e s m _ below meth c 1 g (wM g q) A (some (.int r)) σ2 H locs (F0 m 13 ls [.int r_4])
  refine lv_if_eq (tgt := 39) hx hb d_M_rule_13 (by decide) (fun cd => ?_) (fun cd => ?_)
  · have hf := it_e cd hf
    exact t_M_rule_39 C  hf w (lv_sub hl [0] rfl)
  · have hf := if_e cd hf
    refine lv_aload_n hx hb d_M_rule_16 rfl (lv_at hl 0 rfl) ?_
    refine mg_0_now C w k1149 d_M_rule_17 ?_
    refine lv_iconst (v := 2) hx hb d_M_rule_20 (by decide) ?_
    refine ml_41 C w (by decide) d_M_rule_21 ?_
    refine lv_iload_n hx hb d_M_rule_22 rfl (lv_at hl 1 rfl) ?_
    refine lv_ishr hx hb d_M_rule_23 ?_
    refine lv_iconst (v := 1) hx hb d_M_rule_24 (by decide) ?_
    refine lv_iand hx hb d_M_rule_25 ?_
    refine lv_iconst (v := 1) hx hb d_M_rule_26 (by decide) ?_
    refine lv_icmp_ne (tgt := 34) hx hb d_M_rule_27 (by decide) (fun cd => ?_) (fun cd => ?_)
    · have hf := if_e cd hf
      refine lv_iconst (v := 0) hx hb d_M_rule_34 (by decide) ?_
      exact t_M_rule_35 C  hf w (lv_sub hl [0, 1, 2] rfl)
    · have hf := it_e cd hf
      refine lv_iconst (v := 1) hx hb d_M_rule_30 (by decide) ?_
      refine lv_goto (tgt := 35) hx hb d_M_rule_31 (by decide) ?_
      exact t_M_rule_35 C  hf w (lv_sub hl [0, 1, 2] rfl)
def f_M_set_55 (x1 : Int32) (x2 : Int32) (t0 : Int32) (σ : St) : Option (Int32 × St) :=
  if t0 = 0 then
    lt (uA σ 1 (upd (sA σ 1) (3 : Int32).toNatClampNeg ((sA σ 1 (3 : Int32).toNatClampNeg) + 1))) fun σ_7 =>
    some ((-1), σ_7)
  else
    bp (f_M_keeps σ) fun σ_2 =>
    gd (inB (3 + x1) 10) <|
    lt ((sA σ_2 11 (3 + x1).toNatClampNeg)) fun x_4 =>
    gd (inB (3 + x1) 10) <|
    lt (uA σ_2 11 (upd (sA σ_2 11) (3 + x1).toNatClampNeg x2)) fun σ_6 =>
    some (x_4, σ_6)
def f_M_set_54 (x1 : Int32) (x2 : Int32) (σ : St) : Option (Int32 × St) :=
  f_M_set_55 x1 x2 0 σ
def f_M_set (x1 : Int32) (x2 : Int32) (σ : St) : Option (Int32 × St) :=
  if x1 = 0 then
    bp (f_M_isIn ((x2).toInt64) 1 99 σ) fun r_6 =>
    f_M_set_55 x1 x2 r_6 σ
  else
    if x1 = 1 then
      bp (f_M_isIn ((x2).toInt64) 0 90 σ) fun r_4 =>
      f_M_set_55 x1 x2 r_4 σ
    else
      if x1 = 2 then
        bp (f_M_isIn ((x2).toInt64) 1 9 σ) fun r_2 =>
        if r_2 = 0 then
          f_M_set_54 x1 x2 σ
        else
          f_M_set_55 x1 x2 1 σ
      else
        f_M_set_54 x1 x2 σ
set_option maxHeartbeats 4000000 in
set_option maxRecDepth 20000 in
theorem t_M_set_55 {r : Int32} {σ2 : St} (C : Cx g A p s m av meth c prog_13_method_85_code 5 "BellHammerModel" (some .int))  {x1 : Int32} {x2 : Int32} {t0 : Int32} {σ : St} {H : Heap} {locs : List Loc} {ls : Array Slot} (hf : f_M_set_55   x1 x2 t0 σ = some (r, σ2)) (w : Wd g (wM g q) A s σ H locs) (hl : lv_has ls 5 [(0, .ref (q 0)), (1, .int x1), (2, .int x2)]) : WK p l e s m av below meth c 1 g (wM g q) A (some (.int r)) σ2 H locs (F0 m 55 ls [.int t0]) := by
  obtain ⟨hx, hb, hml, hown, hts, hK, hA, hZ, hlocks, hr, hN⟩ := id C
  unfold f_M_set_55 at hf
  refine lv_istore_n (lv' := [(3, .int t0), (0, .ref (q 0)), (1, .int x1), (2, .int x2)]) hx hb d_M_set_55 rfl hl (by decide) rfl (fun ls hl => ?_)
  refine lv_iload_n hx hb d_M_set_56 rfl (lv_at hl 0 rfl) ?_
  refine lv_if_ne (tgt := 72) hx hb d_M_set_57 (by decide) (fun cd => ?_) (fun cd => ?_)
  · have hf := if_e cd hf
    refine lv_aload_n hx hb d_M_set_72 rfl (lv_at hl 1 rfl) ?_
    obtain ⟨σ_2, h_1, hf⟩ := bp_e hf
    refine k_callV (As := []) (rest := []) C w (c_M_keeps (q := q) h_1) cv_M_keeps k1665 (mr_0 C w) (by decide) hl.1 rfl (Nat.le_of_ble_eq_true rfl) d_M_set_73 (fun H locs w => ?_)
    show WK p l e s m av below meth c 1 g (wM g q) A (some (.int r)) σ2 H locs (F0 m 76 ls [])
    refine lv_aload_n hx hb d_M_set_76 rfl (lv_at hl 1 rfl) ?_
    refine mg_0_now C w k1149 d_M_set_77 ?_
    refine lv_iconst (v := 3) hx hb d_M_set_80 (by decide) ?_
    refine lv_iload_n hx hb d_M_set_81 rfl (lv_at hl 2 rfl) ?_
    refine lv_iadd hx hb d_M_set_82 ?_
    obtain ⟨g_3, hf⟩ := gd_e hf
    refine ml_41 C w g_3 d_M_set_83 ?_
    refine lv_topi (fun x_4 ex_4 => ?_)
    have hf := lt_e ex_4 hf
    refine lv_istore (lv' := [(4, .int x_4), (3, .int t0), (0, .ref (q 0)), (1, .int x1), (2, .int x2)]) hx hb d_M_set_84 hl (by decide) rfl (fun ls hl => ?_)
    refine lv_aload_n hx hb d_M_set_86 rfl (lv_at hl 2 rfl) ?_
    refine mg_0_now C w k1149 d_M_set_87 ?_
    refine lv_iconst (v := 3) hx hb d_M_set_90 (by decide) ?_
    refine lv_iload_n hx hb d_M_set_91 rfl (lv_at hl 3 rfl) ?_
    refine lv_iadd hx hb d_M_set_92 ?_
    refine lv_iload_n hx hb d_M_set_93 rfl (lv_at hl 4 rfl) ?_
    obtain ⟨g_5, hf⟩ := gd_e hf
    refine ms_41 C w g_5 d_M_set_94 (fun σ_6 H locs eσ_6 w => ?_)
    have hf := lt_e eσ_6 hf
    refine lv_iload hx hb d_M_set_95 (lv_at hl 0 rfl) ?_
    obtain ⟨rfl, rfl⟩ := some2_e hf
    exact k_iret C w d_M_set_97
  · have hf := it_e cd hf
    refine lv_aload_n hx hb d_M_set_60 rfl (lv_at hl 1 rfl) ?_
    refine mg_0_refused C w k1103 d_M_set_61 ?_
    refine lv_iconst (v := 3) hx hb d_M_set_64 (by decide) ?_
    refine lv_dup2_11 hx hb d_M_set_65 rfl rfl ?_
    refine ml_29 C w (by decide) d_M_set_66 ?_
    refine lv_iconst (v := 1) hx hb d_M_set_67 (by decide) ?_
    refine lv_iadd hx hb d_M_set_68 ?_
    refine ms_29 C w (by decide) d_M_set_69 (fun σ_7 H locs eσ_7 w => ?_)
    have hf := lt_e eσ_7 hf
    refine lv_iconst (v := (-1)) hx hb d_M_set_70 (by decide) ?_
    obtain ⟨rfl, rfl⟩ := some2_e hf
    exact k_iret C w d_M_set_71
set_option maxHeartbeats 4000000 in
set_option maxRecDepth 20000 in
theorem t_M_set_54 {r : Int32} {σ2 : St} (C : Cx g A p s m av meth c prog_13_method_85_code 5 "BellHammerModel" (some .int))  {x1 : Int32} {x2 : Int32} {σ : St} {H : Heap} {locs : List Loc} {ls : Array Slot} (hf : f_M_set_54   x1 x2 σ = some (r, σ2)) (w : Wd g (wM g q) A s σ H locs) (hl : lv_has ls 5 [(0, .ref (q 0)), (1, .int x1), (2, .int x2)]) : WK p l e s m av below meth c 1 g (wM g q) A (some (.int r)) σ2 H locs (F0 m 54 ls []) := by
  obtain ⟨hx, hb, hml, hown, hts, hK, hA, hZ, hlocks, hr, hN⟩ := id C
  unfold f_M_set_54 at hf
  refine lv_iconst (v := 0) hx hb d_M_set_54 (by decide) ?_
  exact t_M_set_55 C  hf w (lv_sub hl [0, 1, 2] rfl)
set_option maxHeartbeats 4000000 in
set_option maxRecDepth 20000 in
theorem c_M_set {l : Launch} {g : GX} {q : Nat → Nat} {x1 : Int32} {x2 : Int32}  {σ : St} {r : Int32} {σ2 : St} (hf : f_M_set  x1 x2 σ = some (r, σ2)) : KK l y_M_set prog_13_method_85_code 5 (some .int) 1 g (wM g q) σ [.ref (q 0), .int x1, .int x2] (some (.int r)) (wM g q) σ2 := by
  refine KK_of (plainFor_of_name (by decide)) (Nat.le_of_ble_eq_true rfl) (fun p e s m below meth c A ls C w hl => ?_)
  have hl : lv_has ls 5 [(0, .ref (q 0)), (1, .int x1), (2, .int x2)] := hl
  obtain ⟨hx, hb, hml, hown, hts, hK, hA, hZ, hlocks, hr, hN⟩ := id C
  unfold f_M_set at hf
  refine lv_iload_n hx hb d_M_set_0 rfl (lv_at hl 1 rfl) ?_
  refine lv_if_ne (tgt := 16) hx hb d_M_set_1 (by decide) (fun cd => ?_) (fun cd => ?_)
  · have hf := if_e cd hf
    refine lv_iload_n hx hb d_M_set_16 rfl (lv_at hl 1 rfl) ?_
    refine lv_iconst (v := 1) hx hb d_M_set_17 (by decide) ?_
    refine lv_icmp_ne (tgt := 33) hx hb d_M_set_18 (by decide) (fun cd => ?_) (fun cd => ?_)
    · have hf := if_e cd hf
      refine lv_iload_n hx hb d_M_set_33 rfl (lv_at hl 1 rfl) ?_
      refine lv_iconst (v := 2) hx hb d_M_set_34 (by decide) ?_
      refine lv_icmp_ne (tgt := 54) hx hb d_M_set_35 (by decide) (fun cd => ?_) (fun cd => ?_)
      · have hf := if_e cd hf
        exact t_M_set_54 C  hf w (lv_sub hl [0, 1, 2] rfl)
      · have hf := it_e cd hf
        refine lv_iload_n hx hb d_M_set_38 rfl (lv_at hl 2 rfl) ?_
        refine lv_i2l hx hb d_M_set_39 rfl ?_
        refine lv_lconst (v := 1) hx hb d_M_set_40 (by decide) ?_
        refine lv_ldc2 (v := 9) hx hb hown (hts _ k1552) d_M_set_41 ?_
        obtain ⟨r_2, h_1, hf⟩ := bp_e hf
        refine k_callS (As := [.long (x2).toInt64, .long 1, .long 9]) (rest := []) C w (c_M_isIn (q := q) h_1) cv_M_isIn k1410 (by decide) hl.1 rfl (Nat.le_of_ble_eq_true rfl) d_M_set_44 (fun H locs w => ?_)
        show WK p l e s m _ below meth c 1 g (wM g q) A (some (.int r)) σ2 H locs (F0 m 47 ls [.int r_2])
        refine lv_if_eq (tgt := 54) hx hb d_M_set_47 (by decide) (fun cd => ?_) (fun cd => ?_)
        · have hf := it_e cd hf
          exact t_M_set_54 C  hf w (lv_sub hl [0, 1, 2] rfl)
        · have hf := if_e cd hf
          refine lv_iconst (v := 1) hx hb d_M_set_50 (by decide) ?_
          refine lv_goto (tgt := 55) hx hb d_M_set_51 (by decide) ?_
          exact t_M_set_55 C  hf w (lv_sub hl [0, 1, 2] rfl)
    · have hf := it_e cd hf
      refine lv_iload_n hx hb d_M_set_21 rfl (lv_at hl 2 rfl) ?_
      refine lv_i2l hx hb d_M_set_22 rfl ?_
      refine lv_lconst (v := 0) hx hb d_M_set_23 (by decide) ?_
      refine lv_ldc2 (v := 90) hx hb hown (hts _ k1689) d_M_set_24 ?_
      obtain ⟨r_4, h_3, hf⟩ := bp_e hf
      refine k_callS (As := [.long (x2).toInt64, .long 0, .long 90]) (rest := []) C w (c_M_isIn (q := q) h_3) cv_M_isIn k1410 (by decide) hl.1 rfl (Nat.le_of_ble_eq_true rfl) d_M_set_27 (fun H locs w => ?_)
      show WK p l e s m _ below meth c 1 g (wM g q) A (some (.int r)) σ2 H locs (F0 m 30 ls [.int r_4])
      refine lv_goto (tgt := 55) hx hb d_M_set_30 (by decide) ?_
      exact t_M_set_55 C  hf w (lv_sub hl [0, 1, 2] rfl)
  · have hf := it_e cd hf
    refine lv_iload_n hx hb d_M_set_4 rfl (lv_at hl 2 rfl) ?_
    refine lv_i2l hx hb d_M_set_5 rfl ?_
    refine lv_lconst (v := 1) hx hb d_M_set_6 (by decide) ?_
    refine lv_ldc2 (v := 99) hx hb hown (hts _ k1546) d_M_set_7 ?_
    obtain ⟨r_6, h_5, hf⟩ := bp_e hf
    refine k_callS (As := [.long (x2).toInt64, .long 1, .long 99]) (rest := []) C w (c_M_isIn (q := q) h_5) cv_M_isIn k1410 (by decide) hl.1 rfl (Nat.le_of_ble_eq_true rfl) d_M_set_10 (fun H locs w => ?_)
    show WK p l e s m _ below meth c 1 g (wM g q) A (some (.int r)) σ2 H locs (F0 m 13 ls [.int r_6])
    refine lv_goto (tgt := 55) hx hb d_M_set_13 (by decide) ?_
    exact t_M_set_55 C  hf w (lv_sub hl [0, 1, 2] rfl)
def f_M_undo_56b (k56 : Int32 → St → Option (Int32 × St)) (x1 : Int32) (σ : St) : Option (Int32 × St) :=
  if 300 ≤ x1 then
    lt (uI σ 27 (iR (((sI σ 27) + 20) - 1) 20)) fun σ_1 =>
    lt (uI σ_1 26 ((sI σ_1 26) - 1)) fun σ_2 =>
    some (1, σ_2)
  else
    gd (inB (((307 * (sI σ 27)) + 7) + x1) 6140) <|
    gd (inB x1 300) <|
    lt (uA σ 12 (upd (sA σ 12) x1.toNatClampNeg (sA σ 13 (((307 * (sI σ 27)) + 7) + x1).toNatClampNeg))) fun σ_5 =>
    lt ((x1 + 1)) fun x_6 =>
    k56 x_6 σ_5
def f_M_undo_56 : Nat → Int32 → St → Option (Int32 × St)
  | 0 => fun _ _ => none
  | n + 1 => f_M_undo_56b   (f_M_undo_56   n)
def f_M_undo_21b (k21 : Int32 → St → Option (Int32 × St)) (x1 : Int32) (σ : St) : Option (Int32 × St) :=
  if 7 ≤ x1 then
    f_M_undo_56 FU 0 σ
  else
    gd (inB ((307 * (sI σ 27)) + x1) 6140) <|
    gd (inB x1 10) <|
    lt (uA σ 11 (upd (sA σ 11) x1.toNatClampNeg (sA σ 13 ((307 * (sI σ 27)) + x1).toNatClampNeg))) fun σ_3 =>
    lt ((x1 + 1)) fun x_4 =>
    k21 x_4 σ_3
def f_M_undo_21 : Nat → Int32 → St → Option (Int32 × St)
  | 0 => fun _ _ => none
  | n + 1 => f_M_undo_21b   (f_M_undo_21   n)
def f_M_undo (σ : St) : Option (Int32 × St) :=
  if (sI σ 26) = 0 then
    lt (uA σ 1 (upd (sA σ 1) (4 : Int32).toNatClampNeg ((sA σ 1 (4 : Int32).toNatClampNeg) + 1))) fun σ_1 =>
    some (0, σ_1)
  else
    f_M_undo_21 FU 0 σ
set_option maxHeartbeats 4000000 in
set_option maxRecDepth 20000 in
theorem t_M_undo_56b {r : Int32} {σ2 : St} (C : Cx g A p s m av meth c prog_13_method_79_code 2 "BellHammerModel" (some .boolean)) {k56 : Int32 → St → Option (Int32 × St)} (hk56 : ∀ (x1 : Int32) (σ : St) (H : Heap) (locs : List Loc) (ls : Array Slot), k56 x1 σ = some (r, σ2) → Wd g (wM g q) A s σ H locs → lv_has ls 2 [(0, .ref (q 0)), (1, .int x1)] → WK p l e s m av below meth c 0 g (wM g q) A (some (.int r)) σ2 H locs (F0 m 56 ls []))  {x1 : Int32} {σ : St} {H : Heap} {locs : List Loc} {ls : Array Slot} (hf : f_M_undo_56b  k56 x1 σ = some (r, σ2)) (w : Wd g (wM g q) A s σ H locs) (hl : lv_has ls 2 [(0, .ref (q 0)), (1, .int x1)]) : WK p l e s m av below meth c 0 g (wM g q) A (some (.int r)) σ2 H locs (F0 m 56 ls []) := by
  obtain ⟨hx, hb, hml, hown, hts, hK, hA, hZ, hlocks, hr, hN⟩ := id C
  unfold f_M_undo_56b at hf
  refine lv_iload_n hx hb d_M_undo_56 rfl (lv_at hl 1 rfl) ?_
  refine lv_sipush (v := 300) hx hb d_M_undo_57 (by decide) ?_
  refine lv_icmp_ge (tgt := 93) hx hb d_M_undo_60 (by decide) (fun cd => ?_) (fun cd => ?_)
  · have hf := it_e cd hf
    refine lv_aload_n hx hb d_M_undo_93 rfl (lv_at hl 0 rfl) ?_
    refine lv_aload_n hx hb d_M_undo_94 rfl (lv_at hl 0 rfl) ?_
    refine mg_0_newest C w k1169 d_M_undo_95 ?_
    refine lv_bipush (v := 20) hx hb d_M_undo_98 (by decide) ?_
    refine lv_iadd hx hb d_M_undo_100 ?_
    refine lv_iconst (v := 1) hx hb d_M_undo_101 (by decide) ?_
    refine lv_isub hx hb d_M_undo_102 ?_
    refine lv_bipush (v := 20) hx hb d_M_undo_103 (by decide) ?_
    refine r_irem hx hb d_M_undo_105 (by decide) ?_
    refine mp_0_newest C w k1169 d_M_undo_106 (fun σ_1 H locs eσ_1 w => ?_)
    have hf := lt_e eσ_1 hf
    refine lv_aload_n hx hb d_M_undo_109 rfl (lv_at hl 0 rfl) ?_
    refine lv_dup hx hb d_M_undo_110 rfl ?_
    refine mg_0_undoable C w k1168 d_M_undo_111 ?_
    refine lv_iconst (v := 1) hx hb d_M_undo_114 (by decide) ?_
    refine lv_isub hx hb d_M_undo_115 ?_
    refine mp_0_undoable C w k1168 d_M_undo_116 (fun σ_2 H locs eσ_2 w => ?_)
    have hf := lt_e eσ_2 hf
    refine lv_iconst (v := 1) hx hb d_M_undo_119 (by decide) ?_
    obtain ⟨rfl, rfl⟩ := some2_e hf
    exact k_zret C w (by decide) d_M_undo_120
  · have hf := if_e cd hf
    refine lv_aload_n hx hb d_M_undo_63 rfl (lv_at hl 0 rfl) ?_
    refine mg_0_blows C w k1150 d_M_undo_64 ?_
    refine lv_iload_n hx hb d_M_undo_67 rfl (lv_at hl 1 rfl) ?_
    refine lv_aload_n hx hb d_M_undo_68 rfl (lv_at hl 0 rfl) ?_
    refine mg_0_keptNow C w k1167 d_M_undo_69 ?_
    refine lv_sipush (v := 307) hx hb d_M_undo_72 (by decide) ?_
    refine lv_aload_n hx hb d_M_undo_75 rfl (lv_at hl 0 rfl) ?_
    refine mg_0_newest C w k1169 d_M_undo_76 ?_
    refine lv_imul hx hb d_M_undo_79 ?_
    refine lv_bipush (v := 7) hx hb d_M_undo_80 (by decide) ?_
    refine lv_iadd hx hb d_M_undo_82 ?_
    refine lv_iload_n hx hb d_M_undo_83 rfl (lv_at hl 1 rfl) ?_
    refine lv_iadd hx hb d_M_undo_84 ?_
    obtain ⟨g_3, hf⟩ := gd_e hf
    refine ml_43 C w g_3 d_M_undo_85 ?_
    obtain ⟨g_4, hf⟩ := gd_e hf
    refine ms_42 C w g_4 d_M_undo_86 (fun σ_5 H locs eσ_5 w => ?_)
    have hf := lt_e eσ_5 hf
    obtain ⟨x_6, ex_6⟩ : ∃ y : Int32, y = (x1 + 1) := ⟨_, rfl⟩
    have hf := lt_e ex_6 hf
    refine lv_iinc (v := x_6) (lv' := [(1, .int x_6), (0, .ref (q 0))]) hx hb d_M_undo_87 hl (k := 1) rfl (by rw [ex_6]; rfl) (by decide) rfl (fun ls hl => ?_)
    refine lv_goto (tgt := 56) hx hb d_M_undo_90 (by decide) ?_
    exact hk56 x_6 σ_5 _ _ _ hf w (lv_sub hl [1, 0] rfl)
set_option maxHeartbeats 4000000 in
set_option maxRecDepth 20000 in
theorem t_M_undo_56 {r : Int32} {σ2 : St} (C : Cx g A p s m av meth c prog_13_method_79_code 2 "BellHammerModel" (some .boolean))  : ∀ (n : Nat) (x1 : Int32) (σ : St) (H : Heap) (locs : List Loc) (ls : Array Slot), f_M_undo_56   n x1 σ = some (r, σ2) → Wd g (wM g q) A s σ H locs → lv_has ls 2 [(0, .ref (q 0)), (1, .int x1)] → WK p l e s m av below meth c 0 g (wM g q) A (some (.int r)) σ2 H locs (F0 m 56 ls []) := by
  intro n
  induction n with
  | zero => intro x1 σ H locs ls hf; exact absurd hf (by intro z; cases z)
  | succ n ih => intro x1 σ H locs ls hf w hl; exact t_M_undo_56b C  ih hf w hl
set_option maxHeartbeats 4000000 in
set_option maxRecDepth 20000 in
theorem t_M_undo_21b {r : Int32} {σ2 : St} (C : Cx g A p s m av meth c prog_13_method_79_code 2 "BellHammerModel" (some .boolean)) {k21 : Int32 → St → Option (Int32 × St)} (hk21 : ∀ (x1 : Int32) (σ : St) (H : Heap) (locs : List Loc) (ls : Array Slot), k21 x1 σ = some (r, σ2) → Wd g (wM g q) A s σ H locs → lv_has ls 2 [(0, .ref (q 0)), (1, .int x1)] → WK p l e s m av below meth c 0 g (wM g q) A (some (.int r)) σ2 H locs (F0 m 21 ls []))  {x1 : Int32} {σ : St} {H : Heap} {locs : List Loc} {ls : Array Slot} (hf : f_M_undo_21b  k21 x1 σ = some (r, σ2)) (w : Wd g (wM g q) A s σ H locs) (hl : lv_has ls 2 [(0, .ref (q 0)), (1, .int x1)]) : WK p l e s m av below meth c 0 g (wM g q) A (some (.int r)) σ2 H locs (F0 m 21 ls []) := by
  obtain ⟨hx, hb, hml, hown, hts, hK, hA, hZ, hlocks, hr, hN⟩ := id C
  unfold f_M_undo_21b at hf
  refine lv_iload_n hx hb d_M_undo_21 rfl (lv_at hl 1 rfl) ?_
  refine lv_bipush (v := 7) hx hb d_M_undo_22 (by decide) ?_
  refine lv_icmp_ge (tgt := 54) hx hb d_M_undo_24 (by decide) (fun cd => ?_) (fun cd => ?_)
  · have hf := it_e cd hf
    refine lv_iconst (v := 0) hx hb d_M_undo_54 (by decide) ?_
    refine lv_istore_n (lv' := [(1, .int 0), (0, .ref (q 0))]) hx hb d_M_undo_55 rfl hl (by decide) rfl (fun ls hl => ?_)
    exact t_M_undo_56 C  FU 0 σ _ _ _ hf w (lv_sub hl [1, 0] rfl)
  · have hf := if_e cd hf
    refine lv_aload_n hx hb d_M_undo_27 rfl (lv_at hl 0 rfl) ?_
    refine mg_0_now C w k1149 d_M_undo_28 ?_
    refine lv_iload_n hx hb d_M_undo_31 rfl (lv_at hl 1 rfl) ?_
    refine lv_aload_n hx hb d_M_undo_32 rfl (lv_at hl 0 rfl) ?_
    refine mg_0_keptNow C w k1167 d_M_undo_33 ?_
    refine lv_sipush (v := 307) hx hb d_M_undo_36 (by decide) ?_
    refine lv_aload_n hx hb d_M_undo_39 rfl (lv_at hl 0 rfl) ?_
    refine mg_0_newest C w k1169 d_M_undo_40 ?_
    refine lv_imul hx hb d_M_undo_43 ?_
    refine lv_iload_n hx hb d_M_undo_44 rfl (lv_at hl 1 rfl) ?_
    refine lv_iadd hx hb d_M_undo_45 ?_
    obtain ⟨g_1, hf⟩ := gd_e hf
    refine ml_43 C w g_1 d_M_undo_46 ?_
    obtain ⟨g_2, hf⟩ := gd_e hf
    refine ms_41 C w g_2 d_M_undo_47 (fun σ_3 H locs eσ_3 w => ?_)
    have hf := lt_e eσ_3 hf
    obtain ⟨x_4, ex_4⟩ : ∃ y : Int32, y = (x1 + 1) := ⟨_, rfl⟩
    have hf := lt_e ex_4 hf
    refine lv_iinc (v := x_4) (lv' := [(1, .int x_4), (0, .ref (q 0))]) hx hb d_M_undo_48 hl (k := 1) rfl (by rw [ex_4]; rfl) (by decide) rfl (fun ls hl => ?_)
    refine lv_goto (tgt := 21) hx hb d_M_undo_51 (by decide) ?_
    exact hk21 x_4 σ_3 _ _ _ hf w (lv_sub hl [1, 0] rfl)
set_option maxHeartbeats 4000000 in
set_option maxRecDepth 20000 in
theorem t_M_undo_21 {r : Int32} {σ2 : St} (C : Cx g A p s m av meth c prog_13_method_79_code 2 "BellHammerModel" (some .boolean))  : ∀ (n : Nat) (x1 : Int32) (σ : St) (H : Heap) (locs : List Loc) (ls : Array Slot), f_M_undo_21   n x1 σ = some (r, σ2) → Wd g (wM g q) A s σ H locs → lv_has ls 2 [(0, .ref (q 0)), (1, .int x1)] → WK p l e s m av below meth c 0 g (wM g q) A (some (.int r)) σ2 H locs (F0 m 21 ls []) := by
  intro n
  induction n with
  | zero => intro x1 σ H locs ls hf; exact absurd hf (by intro z; cases z)
  | succ n ih => intro x1 σ H locs ls hf w hl; exact t_M_undo_21b C  ih hf w hl
set_option maxHeartbeats 4000000 in
set_option maxRecDepth 20000 in
theorem c_M_undo {l : Launch} {g : GX} {q : Nat → Nat}  {σ : St} {r : Int32} {σ2 : St} (hf : f_M_undo   σ = some (r, σ2)) : KK l y_M_undo prog_13_method_79_code 2 (some .boolean) 0 g (wM g q) σ [.ref (q 0)] (some (.int r)) (wM g q) σ2 := by
  refine KK_of (plainFor_of_name (by decide)) (Nat.le_of_ble_eq_true rfl) (fun p e s m below meth c A ls C w hl => ?_)
  have hl : lv_has ls 2 [(0, .ref (q 0))] := hl
  obtain ⟨hx, hb, hml, hown, hts, hK, hA, hZ, hlocks, hr, hN⟩ := id C
  unfold f_M_undo at hf
  refine lv_aload_n hx hb d_M_undo_0 rfl (lv_at hl 0 rfl) ?_
  refine mg_0_undoable C w k1168 d_M_undo_1 ?_
  refine lv_if_ne (tgt := 19) hx hb d_M_undo_4 (by decide) (fun cd => ?_) (fun cd => ?_)
  · have hf := if_e cd hf
    refine lv_iconst (v := 0) hx hb d_M_undo_19 (by decide) ?_
    refine lv_istore_n (lv' := [(1, .int 0), (0, .ref (q 0))]) hx hb d_M_undo_20 rfl hl (by decide) rfl (fun ls hl => ?_)
    exact t_M_undo_21 C  FU 0 σ _ _ _ hf w (lv_sub hl [1, 0] rfl)
  · have hf := it_e cd hf
    refine lv_aload_n hx hb d_M_undo_7 rfl (lv_at hl 0 rfl) ?_
    refine mg_0_refused C w k1103 d_M_undo_8 ?_
    refine lv_iconst (v := 4) hx hb d_M_undo_11 (by decide) ?_
    refine lv_dup2_11 hx hb d_M_undo_12 rfl rfl ?_
    refine ml_29 C w (by decide) d_M_undo_13 ?_
    refine lv_iconst (v := 1) hx hb d_M_undo_14 (by decide) ?_
    refine lv_iadd hx hb d_M_undo_15 ?_
    refine ms_29 C w (by decide) d_M_undo_16 (fun σ_1 H locs eσ_1 w => ?_)
    have hf := lt_e eσ_1 hf
    refine lv_iconst (v := 0) hx hb d_M_undo_17 (by decide) ?_
    obtain ⟨rfl, rfl⟩ := some2_e hf
    exact k_zret C w (by decide) d_M_undo_18
def f_M_seed (x1 : Int32) (σ : St) : Option (Int32 × St) :=
  if 0 ≤ x1 then
    lt (uJ σ 5 (x1).toInt64) fun σ_1 =>
    some (1, σ_1)
  else
    lt (uA σ 1 (upd (sA σ 1) (5 : Int32).toNatClampNeg ((sA σ 1 (5 : Int32).toNatClampNeg) + 1))) fun σ_2 =>
    some (0, σ_2)
set_option maxHeartbeats 4000000 in
set_option maxRecDepth 20000 in
theorem c_M_seed {l : Launch} {g : GX} {q : Nat → Nat} {x1 : Int32}  {σ : St} {r : Int32} {σ2 : St} (hf : f_M_seed  x1 σ = some (r, σ2)) : KK l y_M_seed prog_13_method_81_code 2 (some .boolean) 0 g (wM g q) σ [.ref (q 0), .int x1] (some (.int r)) (wM g q) σ2 := by
  refine KK_of (plainFor_of_name (by decide)) (Nat.le_of_ble_eq_true rfl) (fun p e s m below meth c A ls C w hl => ?_)
  have hl : lv_has ls 2 [(0, .ref (q 0)), (1, .int x1)] := hl
  obtain ⟨hx, hb, hml, hown, hts, hK, hA, hZ, hlocks, hr, hN⟩ := id C
  unfold f_M_seed at hf
  refine lv_iload_n hx hb d_M_seed_0 rfl (lv_at hl 1 rfl) ?_
  refine lv_if_ge (tgt := 16) hx hb d_M_seed_1 (by decide) (fun cd => ?_) (fun cd => ?_)
  · have hf := it_e cd hf
    refine lv_aload_n hx hb d_M_seed_16 rfl (lv_at hl 0 rfl) ?_
    refine lv_iload_n hx hb d_M_seed_17 rfl (lv_at hl 1 rfl) ?_
    refine lv_i2l hx hb d_M_seed_18 rfl ?_
    refine mp_0_seeded C w k1170 d_M_seed_19 (fun σ_1 H locs eσ_1 w => ?_)
    have hf := lt_e eσ_1 hf
    refine lv_iconst (v := 1) hx hb d_M_seed_22 (by decide) ?_
    obtain ⟨rfl, rfl⟩ := some2_e hf
    exact k_zret C w (by decide) d_M_seed_23
  · have hf := if_e cd hf
    refine lv_aload_n hx hb d_M_seed_4 rfl (lv_at hl 0 rfl) ?_
    refine mg_0_refused C w k1103 d_M_seed_5 ?_
    refine lv_iconst (v := 5) hx hb d_M_seed_8 (by decide) ?_
    refine lv_dup2_11 hx hb d_M_seed_9 rfl rfl ?_
    refine ml_29 C w (by decide) d_M_seed_10 ?_
    refine lv_iconst (v := 1) hx hb d_M_seed_11 (by decide) ?_
    refine lv_iadd hx hb d_M_seed_12 ?_
    refine ms_29 C w (by decide) d_M_seed_13 (fun σ_2 H locs eσ_2 w => ?_)
    have hf := lt_e eσ_2 hf
    refine lv_iconst (v := 0) hx hb d_M_seed_14 (by decide) ?_
    obtain ⟨rfl, rfl⟩ := some2_e hf
    exact k_zret C w (by decide) d_M_seed_15
def f_M_kept (x1 : Int32) (x2 : Int32) (σ : St) : Option (Int32) :=
  bp (f_M_isIn ((x1).toInt64) 0 ((((sA σ 11 (6 : Int32).toNatClampNeg) - 1)).toInt64) σ) fun r_2 =>
  if r_2 = 0 then
    some (-1)
  else
    bp (f_M_isIn ((x2).toInt64) 0 4 σ) fun r_4 =>
    if r_4 = 0 then
      some (-1)
    else
      gd (inB ((5 * x1) + x2) 300) <|
      some (sA σ 12 ((5 * x1) + x2).toNatClampNeg)
set_option maxHeartbeats 4000000 in
set_option maxRecDepth 20000 in
theorem c_M_kept {l : Launch} {g : GX} {q : Nat → Nat} {x1 : Int32} {x2 : Int32}  {σ : St} {r : Int32} (hf : f_M_kept  x1 x2 σ = some r) : KK l y_M_kept prog_13_method_86_code 3 (some .int) 1 g (wM g q) σ [.ref (q 0), .int x1, .int x2] (some (.int r)) (wM g q) σ := by
  refine KK_of (plainFor_of_name (by decide)) (Nat.le_of_ble_eq_true rfl) (fun p e s m below meth c A ls C w hl => ?_)
  have hl : lv_has ls 3 [(0, .ref (q 0)), (1, .int x1), (2, .int x2)] := hl
  obtain ⟨hx, hb, hml, hown, hts, hK, hA, hZ, hlocks, hr, hN⟩ := id C
  unfold f_M_kept at hf
  refine lv_iload_n hx hb d_M_kept_0 rfl (lv_at hl 1 rfl) ?_
  refine lv_i2l hx hb d_M_kept_1 rfl ?_
  refine lv_lconst (v := 0) hx hb d_M_kept_2 (by decide) ?_
  refine lv_aload_n hx hb d_M_kept_3 rfl (lv_at hl 0 rfl) ?_
  refine mg_0_now C w k1149 d_M_kept_4 ?_
  refine lv_bipush (v := 6) hx hb d_M_kept_7 (by decide) ?_
  refine ml_41 C w (by decide) d_M_kept_9 ?_
  refine lv_iconst (v := 1) hx hb d_M_kept_10 (by decide) ?_
  refine lv_isub hx hb d_M_kept_11 ?_
  refine lv_i2l hx hb d_M_kept_12 rfl ?_
  obtain ⟨r_2, h_1, hf⟩ := bp_e hf
  refine k_callS (As := [.long (x1).toInt64, .long 0, .long (((sA σ 11 (6 : Int32).toNatClampNeg) - 1)).toInt64]) (rest := []) C w (c_M_isIn (q := q) h_1) cv_M_isIn k1410 (by decide) hl.1 rfl (Nat.le_of_ble_eq_true rfl) d_M_kept_13 (fun H locs w => ?_)
  show WK p l e s m _ below meth c 1 g (wM g q) A (some (.int r)) σ H locs (F0 m 16 ls [.int r_2])
  refine lv_if_eq (tgt := 44) hx hb d_M_kept_16 (by decide) (fun cd => ?_) (fun cd => ?_)
  · have hf := it_e cd hf
    refine lv_iconst (v := (-1)) hx hb d_M_kept_44 (by decide) ?_
    cases some_e hf
    exact k_iret C w d_M_kept_45
  · have hf := if_e cd hf
    refine lv_iload_n hx hb d_M_kept_19 rfl (lv_at hl 2 rfl) ?_
    refine lv_i2l hx hb d_M_kept_20 rfl ?_
    refine lv_lconst (v := 0) hx hb d_M_kept_21 (by decide) ?_
    refine lv_ldc2 (v := 4) hx hb hown (hts _ k1694) d_M_kept_22 ?_
    obtain ⟨r_4, h_3, hf⟩ := bp_e hf
    refine k_callS (As := [.long (x2).toInt64, .long 0, .long 4]) (rest := []) C w (c_M_isIn (q := q) h_3) cv_M_isIn k1410 (by decide) hl.1 rfl (Nat.le_of_ble_eq_true rfl) d_M_kept_25 (fun H locs w => ?_)
    show WK p l e s m _ below meth c 1 g (wM g q) A (some (.int r)) σ H locs (F0 m 28 ls [.int r_4])
    refine lv_if_eq (tgt := 44) hx hb d_M_kept_28 (by decide) (fun cd => ?_) (fun cd => ?_)
    · have hf := it_e cd hf
      refine lv_iconst (v := (-1)) hx hb d_M_kept_44 (by decide) ?_
      cases some_e hf
      exact k_iret C w d_M_kept_45
    · have hf := if_e cd hf
      refine lv_aload_n hx hb d_M_kept_31 rfl (lv_at hl 0 rfl) ?_
      refine mg_0_blows C w k1150 d_M_kept_32 ?_
      refine lv_iconst (v := 5) hx hb d_M_kept_35 (by decide) ?_
      refine lv_iload_n hx hb d_M_kept_36 rfl (lv_at hl 1 rfl) ?_
      refine lv_imul hx hb d_M_kept_37 ?_
      refine lv_iload_n hx hb d_M_kept_38 rfl (lv_at hl 2 rfl) ?_
      refine lv_iadd hx hb d_M_kept_39 ?_
      obtain ⟨g_5, hf⟩ := gd_e hf
      refine ml_42 C w g_5 d_M_kept_40 ?_
      refine lv_goto (tgt := 45) hx hb d_M_kept_41 (by decide) ?_
      cases some_e hf
      exact k_iret C w d_M_kept_45
def f_M_see_106b (k106 : Int32 → Int32 → St → Option (Int32 × St)) (x2 : Int32) (x4 : Int32) (σ : St) : Option (Int32 × St) :=
  if x2 ≤ x4 then
    some (1, σ)
  else
    gd (inB x4 1600) <|
    gd (inB x4 4) <|
    lt (uA σ 14 (upd (sA σ 14) x4.toNatClampNeg (sA σ 0 x4.toNatClampNeg))) fun σ_3 =>
    lt ((x4 + 1)) fun x_4 =>
    k106 x2 x_4 σ_3
def f_M_see_106 : Nat → Int32 → Int32 → St → Option (Int32 × St)
  | 0 => fun _ _ _ => none
  | n + 1 => f_M_see_106b   (f_M_see_106   n)
def f_M_see_77 (x1 : Int32) (x2 : Int32) (x3 : Int32) (σ : St) : Option (Int32 × St) :=
  if x3 = 0 then
    lt (uA σ 1 (upd (sA σ 1) (1 : Int32).toNatClampNeg ((sA σ 1 (1 : Int32).toNatClampNeg) + 1))) fun σ_3 =>
    some (0, σ_3)
  else
    lt (uI σ 28 x2) fun σ_1 =>
    lt (uI σ_1 29 x1) fun σ_2 =>
    f_M_see_106 FU x2 0 σ_2
def f_M_see_39b (k39 : Int32 → Int32 → Int32 → Int32 → St → Option (Int32 × St)) (x1 : Int32) (x2 : Int32) (x3 : Int32) (x4 : Int32) (σ : St) : Option (Int32 × St) :=
  if x2 ≤ x4 then
    f_M_see_77 x1 x2 x3 σ
  else
    if x3 = 0 then
      f_M_see_77 x1 x2 x3 σ
    else
      gd (inB x4 1600) <|
      if (sA σ 11 (3 : Int32).toNatClampNeg) < (sA σ 0 x4.toNatClampNeg) then
        lt ((x4 + 1)) fun x_2 =>
        k39 x1 x2 0 x_2 σ
      else
        lt ((x4 + 1)) fun x_3 =>
        k39 x1 x2 1 x_3 σ
def f_M_see_39 : Nat → Int32 → Int32 → Int32 → Int32 → St → Option (Int32 × St)
  | 0 => fun _ _ _ _ _ => none
  | n + 1 => f_M_see_39b   (f_M_see_39   n)
def f_M_see_34 (x1 : Int32) (x2 : Int32) (σ : St) : Option (Int32 × St) :=
  f_M_see_39 FU x1 x2 0 0 σ
def f_M_see (x1 : Int32) (σ : St) : Option (Int32 × St) :=
  lt ((sI σ 0)) fun x_1 =>
  lt (uI σ 0 0) fun σ_2 =>
  bp (f_M_isTrier x1 σ_2) fun r_4 =>
  if r_4 = 0 then
    f_M_see_34 x1 x_1 σ_2
  else
    bp (f_M_isIn ((x_1).toInt64) 1 4 σ_2) fun r_6 =>
    if r_6 = 0 then
      f_M_see_34 x1 x_1 σ_2
    else
      f_M_see_39 FU x1 x_1 1 0 σ_2
set_option maxHeartbeats 4000000 in
set_option maxRecDepth 20000 in
theorem t_M_see_106b {r : Int32} {σ2 : St} (C : Cx g A p s m av meth c prog_13_method_87_code 5 "BellHammerModel" (some .boolean)) {k106 : Int32 → Int32 → St → Option (Int32 × St)} (hk106 : ∀ (x2 : Int32) (x4 : Int32) (σ : St) (H : Heap) (locs : List Loc) (ls : Array Slot), k106 x2 x4 σ = some (r, σ2) → Wd g (wM g q) A s σ H locs → lv_has ls 5 [(0, .ref (q 0)), (2, .int x2), (4, .int x4)] → WK p l e s m av below meth c 2 g (wM g q) A (some (.int r)) σ2 H locs (F0 m 106 ls []))  {x2 : Int32} {x4 : Int32} {σ : St} {H : Heap} {locs : List Loc} {ls : Array Slot} (hf : f_M_see_106b  k106 x2 x4 σ = some (r, σ2)) (w : Wd g (wM g q) A s σ H locs) (hl : lv_has ls 5 [(0, .ref (q 0)), (2, .int x2), (4, .int x4)]) : WK p l e s m av below meth c 2 g (wM g q) A (some (.int r)) σ2 H locs (F0 m 106 ls []) := by
  obtain ⟨hx, hb, hml, hown, hts, hK, hA, hZ, hlocks, hr, hN⟩ := id C
  unfold f_M_see_106b at hf
  refine lv_iload hx hb d_M_see_106 (lv_at hl 2 rfl) ?_
  refine lv_iload_n hx hb d_M_see_108 rfl (lv_at hl 1 rfl) ?_
  refine lv_icmp_ge (tgt := 132) hx hb d_M_see_109 (by decide) (fun cd => ?_) (fun cd => ?_)
  · have hf := it_e cd hf
    refine lv_iconst (v := 1) hx hb d_M_see_132 (by decide) ?_
    obtain ⟨rfl, rfl⟩ := some2_e hf
    exact k_zret C w (by decide) d_M_see_133
  · have hf := if_e cd hf
    refine lv_aload_n hx hb d_M_see_112 rfl (lv_at hl 0 rfl) ?_
    refine mg_0_seen C w k1173 d_M_see_113 ?_
    refine lv_iload hx hb d_M_see_116 (lv_at hl 2 rfl) ?_
    refine lv_aload_n hx hb d_M_see_118 rfl (lv_at hl 0 rfl) ?_
    refine mg_0_tape C w k1094 d_M_see_119 ?_
    refine lv_iload hx hb d_M_see_122 (lv_at hl 2 rfl) ?_
    obtain ⟨g_1, hf⟩ := gd_e hf
    refine ml_28 C w g_1 d_M_see_124 ?_
    obtain ⟨g_2, hf⟩ := gd_e hf
    refine ms_44 C w g_2 d_M_see_125 (fun σ_3 H locs eσ_3 w => ?_)
    have hf := lt_e eσ_3 hf
    obtain ⟨x_4, ex_4⟩ : ∃ y : Int32, y = (x4 + 1) := ⟨_, rfl⟩
    have hf := lt_e ex_4 hf
    refine lv_iinc (v := x_4) (lv' := [(4, .int x_4), (0, .ref (q 0)), (2, .int x2)]) hx hb d_M_see_126 hl (k := 2) rfl (by rw [ex_4]; rfl) (by decide) rfl (fun ls hl => ?_)
    refine lv_goto (tgt := 106) hx hb d_M_see_129 (by decide) ?_
    exact hk106 x2 x_4 σ_3 _ _ _ hf w (lv_sub hl [1, 2, 0] rfl)
set_option maxHeartbeats 4000000 in
set_option maxRecDepth 20000 in
theorem t_M_see_106 {r : Int32} {σ2 : St} (C : Cx g A p s m av meth c prog_13_method_87_code 5 "BellHammerModel" (some .boolean))  : ∀ (n : Nat) (x2 : Int32) (x4 : Int32) (σ : St) (H : Heap) (locs : List Loc) (ls : Array Slot), f_M_see_106   n x2 x4 σ = some (r, σ2) → Wd g (wM g q) A s σ H locs → lv_has ls 5 [(0, .ref (q 0)), (2, .int x2), (4, .int x4)] → WK p l e s m av below meth c 2 g (wM g q) A (some (.int r)) σ2 H locs (F0 m 106 ls []) := by
  intro n
  induction n with
  | zero => intro x2 x4 σ H locs ls hf; exact absurd hf (by intro z; cases z)
  | succ n ih => intro x2 x4 σ H locs ls hf w hl; exact t_M_see_106b C  ih hf w hl
set_option maxHeartbeats 4000000 in
set_option maxRecDepth 20000 in
theorem t_M_see_77 {r : Int32} {σ2 : St} (C : Cx g A p s m av meth c prog_13_method_87_code 5 "BellHammerModel" (some .boolean))  {x1 : Int32} {x2 : Int32} {x3 : Int32} {σ : St} {H : Heap} {locs : List Loc} {ls : Array Slot} (hf : f_M_see_77   x1 x2 x3 σ = some (r, σ2)) (w : Wd g (wM g q) A s σ H locs) (hl : lv_has ls 5 [(0, .ref (q 0)), (1, .int x1), (2, .int x2), (3, .int x3)]) : WK p l e s m av below meth c 2 g (wM g q) A (some (.int r)) σ2 H locs (F0 m 77 ls []) := by
  obtain ⟨hx, hb, hml, hown, hts, hK, hA, hZ, hlocks, hr, hN⟩ := id C
  unfold f_M_see_77 at hf
  refine lv_iload_n hx hb d_M_see_77 rfl (lv_at hl 3 rfl) ?_
  refine lv_if_ne (tgt := 93) hx hb d_M_see_78 (by decide) (fun cd => ?_) (fun cd => ?_)
  · have hf := if_e cd hf
    refine lv_aload_n hx hb d_M_see_93 rfl (lv_at hl 0 rfl) ?_
    refine lv_iload_n hx hb d_M_see_94 rfl (lv_at hl 2 rfl) ?_
    refine mp_0_seenMany C w k1171 d_M_see_95 (fun σ_1 H locs eσ_1 w => ?_)
    have hf := lt_e eσ_1 hf
    refine lv_aload_n hx hb d_M_see_98 rfl (lv_at hl 0 rfl) ?_
    refine lv_iload_n hx hb d_M_see_99 rfl (lv_at hl 1 rfl) ?_
    refine mp_0_seenTrier C w k1172 d_M_see_100 (fun σ_2 H locs eσ_2 w => ?_)
    have hf := lt_e eσ_2 hf
    refine lv_iconst (v := 0) hx hb d_M_see_103 (by decide) ?_
    refine lv_istore (lv' := [(4, .int 0), (0, .ref (q 0)), (1, .int x1), (2, .int x2), (3, .int x3)]) hx hb d_M_see_104 hl (by decide) rfl (fun ls hl => ?_)
    exact t_M_see_106 C  FU x2 0 σ_2 _ _ _ hf w (lv_sub hl [1, 3, 0] rfl)
  · have hf := it_e cd hf
    refine lv_aload_n hx hb d_M_see_81 rfl (lv_at hl 0 rfl) ?_
    refine mg_0_refused C w k1103 d_M_see_82 ?_
    refine lv_iconst (v := 1) hx hb d_M_see_85 (by decide) ?_
    refine lv_dup2_11 hx hb d_M_see_86 rfl rfl ?_
    refine ml_29 C w (by decide) d_M_see_87 ?_
    refine lv_iconst (v := 1) hx hb d_M_see_88 (by decide) ?_
    refine lv_iadd hx hb d_M_see_89 ?_
    refine ms_29 C w (by decide) d_M_see_90 (fun σ_3 H locs eσ_3 w => ?_)
    have hf := lt_e eσ_3 hf
    refine lv_iconst (v := 0) hx hb d_M_see_91 (by decide) ?_
    obtain ⟨rfl, rfl⟩ := some2_e hf
    exact k_zret C w (by decide) d_M_see_92
set_option maxHeartbeats 4000000 in
set_option maxRecDepth 20000 in
theorem t_M_see_39b {r : Int32} {σ2 : St} (C : Cx g A p s m av meth c prog_13_method_87_code 5 "BellHammerModel" (some .boolean)) {k39 : Int32 → Int32 → Int32 → Int32 → St → Option (Int32 × St)} (hk39 : ∀ (x1 : Int32) (x2 : Int32) (x3 : Int32) (x4 : Int32) (σ : St) (H : Heap) (locs : List Loc) (ls : Array Slot), k39 x1 x2 x3 x4 σ = some (r, σ2) → Wd g (wM g q) A s σ H locs → lv_has ls 5 [(0, .ref (q 0)), (1, .int x1), (2, .int x2), (3, .int x3), (4, .int x4)] → WK p l e s m av below meth c 2 g (wM g q) A (some (.int r)) σ2 H locs (F0 m 39 ls []))  {x1 : Int32} {x2 : Int32} {x3 : Int32} {x4 : Int32} {σ : St} {H : Heap} {locs : List Loc} {ls : Array Slot} (hf : f_M_see_39b  k39 x1 x2 x3 x4 σ = some (r, σ2)) (w : Wd g (wM g q) A s σ H locs) (hl : lv_has ls 5 [(0, .ref (q 0)), (1, .int x1), (2, .int x2), (3, .int x3), (4, .int x4)]) : WK p l e s m av below meth c 2 g (wM g q) A (some (.int r)) σ2 H locs (F0 m 39 ls []) := by
  obtain ⟨hx, hb, hml, hown, hts, hK, hA, hZ, hlocks, hr, hN⟩ := id C
  unfold f_M_see_39b at hf
  refine lv_iload hx hb d_M_see_39 (lv_at hl 4 rfl) ?_
  refine lv_iload_n hx hb d_M_see_41 rfl (lv_at hl 2 rfl) ?_
  refine lv_icmp_ge (tgt := 77) hx hb d_M_see_42 (by decide) (fun cd => ?_) (fun cd => ?_)
  · have hf := it_e cd hf
    exact t_M_see_77 C  hf w (lv_sub hl [0, 1, 2, 3] rfl)
  · have hf := if_e cd hf
    refine lv_iload_n hx hb d_M_see_45 rfl (lv_at hl 3 rfl) ?_
    refine lv_if_eq (tgt := 77) hx hb d_M_see_46 (by decide) (fun cd => ?_) (fun cd => ?_)
    · have hf := it_e cd hf
      exact t_M_see_77 C  hf w (lv_sub hl [0, 1, 2, 3] rfl)
    · have hf := if_e cd hf
      refine lv_aload_n hx hb d_M_see_49 rfl (lv_at hl 0 rfl) ?_
      refine mg_0_tape C w k1094 d_M_see_50 ?_
      refine lv_iload hx hb d_M_see_53 (lv_at hl 4 rfl) ?_
      obtain ⟨g_1, hf⟩ := gd_e hf
      refine ml_28 C w g_1 d_M_see_55 ?_
      refine lv_aload_n hx hb d_M_see_56 rfl (lv_at hl 0 rfl) ?_
      refine mg_0_now C w k1149 d_M_see_57 ?_
      refine lv_iconst (v := 3) hx hb d_M_see_60 (by decide) ?_
      refine ml_41 C w (by decide) d_M_see_61 ?_
      refine lv_icmp_gt (tgt := 69) hx hb d_M_see_62 (by decide) (fun cd => ?_) (fun cd => ?_)
      · have hf := it_e cd hf
        refine lv_iconst (v := 0) hx hb d_M_see_69 (by decide) ?_
        refine lv_istore_n (lv' := [(3, .int 0), (0, .ref (q 0)), (1, .int x1), (2, .int x2), (4, .int x4)]) hx hb d_M_see_70 rfl hl (by decide) rfl (fun ls hl => ?_)
        obtain ⟨x_2, ex_2⟩ : ∃ y : Int32, y = (x4 + 1) := ⟨_, rfl⟩
        have hf := lt_e ex_2 hf
        refine lv_iinc (v := x_2) (lv' := [(4, .int x_2), (3, .int 0), (0, .ref (q 0)), (1, .int x1), (2, .int x2)]) hx hb d_M_see_71 hl (k := 4) rfl (by rw [ex_2]; rfl) (by decide) rfl (fun ls hl => ?_)
        refine lv_goto (tgt := 39) hx hb d_M_see_74 (by decide) ?_
        exact hk39 x1 x2 0 x_2 σ _ _ _ hf w (lv_sub hl [2, 3, 4, 1, 0] rfl)
      · have hf := if_e cd hf
        refine lv_iconst (v := 1) hx hb d_M_see_65 (by decide) ?_
        refine lv_goto (tgt := 70) hx hb d_M_see_66 (by decide) ?_
        refine lv_istore_n (lv' := [(3, .int 1), (0, .ref (q 0)), (1, .int x1), (2, .int x2), (4, .int x4)]) hx hb d_M_see_70 rfl hl (by decide) rfl (fun ls hl => ?_)
        obtain ⟨x_3, ex_3⟩ : ∃ y : Int32, y = (x4 + 1) := ⟨_, rfl⟩
        have hf := lt_e ex_3 hf
        refine lv_iinc (v := x_3) (lv' := [(4, .int x_3), (3, .int 1), (0, .ref (q 0)), (1, .int x1), (2, .int x2)]) hx hb d_M_see_71 hl (k := 4) rfl (by rw [ex_3]; rfl) (by decide) rfl (fun ls hl => ?_)
        refine lv_goto (tgt := 39) hx hb d_M_see_74 (by decide) ?_
        exact hk39 x1 x2 1 x_3 σ _ _ _ hf w (lv_sub hl [2, 3, 4, 1, 0] rfl)
set_option maxHeartbeats 4000000 in
set_option maxRecDepth 20000 in
theorem t_M_see_39 {r : Int32} {σ2 : St} (C : Cx g A p s m av meth c prog_13_method_87_code 5 "BellHammerModel" (some .boolean))  : ∀ (n : Nat) (x1 : Int32) (x2 : Int32) (x3 : Int32) (x4 : Int32) (σ : St) (H : Heap) (locs : List Loc) (ls : Array Slot), f_M_see_39   n x1 x2 x3 x4 σ = some (r, σ2) → Wd g (wM g q) A s σ H locs → lv_has ls 5 [(0, .ref (q 0)), (1, .int x1), (2, .int x2), (3, .int x3), (4, .int x4)] → WK p l e s m av below meth c 2 g (wM g q) A (some (.int r)) σ2 H locs (F0 m 39 ls []) := by
  intro n
  induction n with
  | zero => intro x1 x2 x3 x4 σ H locs ls hf; exact absurd hf (by intro z; cases z)
  | succ n ih => intro x1 x2 x3 x4 σ H locs ls hf w hl; exact t_M_see_39b C  ih hf w hl
set_option maxHeartbeats 4000000 in
set_option maxRecDepth 20000 in
theorem t_M_see_34 {r : Int32} {σ2 : St} (C : Cx g A p s m av meth c prog_13_method_87_code 5 "BellHammerModel" (some .boolean))  {x1 : Int32} {x2 : Int32} {σ : St} {H : Heap} {locs : List Loc} {ls : Array Slot} (hf : f_M_see_34   x1 x2 σ = some (r, σ2)) (w : Wd g (wM g q) A s σ H locs) (hl : lv_has ls 5 [(0, .ref (q 0)), (1, .int x1), (2, .int x2)]) : WK p l e s m av below meth c 2 g (wM g q) A (some (.int r)) σ2 H locs (F0 m 34 ls []) := by
  obtain ⟨hx, hb, hml, hown, hts, hK, hA, hZ, hlocks, hr, hN⟩ := id C
  unfold f_M_see_34 at hf
  refine lv_iconst (v := 0) hx hb d_M_see_34 (by decide) ?_
  refine lv_istore_n (lv' := [(3, .int 0), (0, .ref (q 0)), (1, .int x1), (2, .int x2)]) hx hb d_M_see_35 rfl hl (by decide) rfl (fun ls hl => ?_)
  refine lv_iconst (v := 0) hx hb d_M_see_36 (by decide) ?_
  refine lv_istore (lv' := [(4, .int 0), (3, .int 0), (0, .ref (q 0)), (1, .int x1), (2, .int x2)]) hx hb d_M_see_37 hl (by decide) rfl (fun ls hl => ?_)
  exact t_M_see_39 C  FU x1 x2 0 0 σ _ _ _ hf w (lv_sub hl [2, 3, 4, 1, 0] rfl)
set_option maxHeartbeats 4000000 in
set_option maxRecDepth 20000 in
theorem c_M_see {l : Launch} {g : GX} {q : Nat → Nat} {x1 : Int32}  {σ : St} {r : Int32} {σ2 : St} (hf : f_M_see  x1 σ = some (r, σ2)) : KK l y_M_see prog_13_method_87_code 5 (some .boolean) 2 g (wM g q) σ [.ref (q 0), .int x1] (some (.int r)) (wM g q) σ2 := by
  refine KK_of (plainFor_of_name (by decide)) (Nat.le_of_ble_eq_true rfl) (fun p e s m below meth c A ls C w hl => ?_)
  have hl : lv_has ls 5 [(0, .ref (q 0)), (1, .int x1)] := hl
  obtain ⟨hx, hb, hml, hown, hts, hK, hA, hZ, hlocks, hr, hN⟩ := id C
  unfold f_M_see at hf
  refine lv_aload_n hx hb d_M_see_0 rfl (lv_at hl 0 rfl) ?_
  refine mg_0_taped C w k1095 d_M_see_1 ?_
  refine lv_topi (fun x_1 ex_1 => ?_)
  have hf := lt_e ex_1 hf
  refine lv_istore_n (lv' := [(2, .int x_1), (0, .ref (q 0)), (1, .int x1)]) hx hb d_M_see_4 rfl hl (by decide) rfl (fun ls hl => ?_)
  refine lv_aload_n hx hb d_M_see_5 rfl (lv_at hl 1 rfl) ?_
  refine lv_iconst (v := 0) hx hb d_M_see_6 (by decide) ?_
  refine mp_0_taped C w k1095 d_M_see_7 (fun σ_2 H locs eσ_2 w => ?_)
  have hf := lt_e eσ_2 hf
  refine lv_aload_n hx hb d_M_see_10 rfl (lv_at hl 1 rfl) ?_
  refine lv_iload_n hx hb d_M_see_11 rfl (lv_at hl 2 rfl) ?_
  obtain ⟨r_4, h_3, hf⟩ := bp_e hf
  refine k_callV (As := [.int x1]) (rest := []) C w (c_M_isTrier (q := q) h_3) cv_M_isTrier k1530 (mr_0 C w) (by decide) hl.1 rfl (Nat.le_of_ble_eq_true rfl) d_M_see_12 (fun H locs w => ?_)
  show WK p l e s m _ below meth c 2 g (wM g q) A (some (.int r)) σ2 H locs (F0 m 15 ls [.int r_4])
  refine lv_if_eq (tgt := 34) hx hb d_M_see_15 (by decide) (fun cd => ?_) (fun cd => ?_)
  · have hf := it_e cd hf
    exact t_M_see_34 C  hf w (lv_sub hl [1, 2, 0] rfl)
  · have hf := if_e cd hf
    refine lv_iload_n hx hb d_M_see_18 rfl (lv_at hl 0 rfl) ?_
    refine lv_i2l hx hb d_M_see_19 rfl ?_
    refine lv_lconst (v := 1) hx hb d_M_see_20 (by decide) ?_
    refine lv_ldc2 (v := 4) hx hb hown (hts _ k1694) d_M_see_21 ?_
    obtain ⟨r_6, h_5, hf⟩ := bp_e hf
    refine k_callS (As := [.long (x_1).toInt64, .long 1, .long 4]) (rest := []) C w (c_M_isIn (q := q) h_5) cv_M_isIn k1410 (by decide) hl.1 rfl (Nat.le_of_ble_eq_true rfl) d_M_see_24 (fun H locs w => ?_)
    show WK p l e s m _ below meth c 2 g (wM g q) A (some (.int r)) σ2 H locs (F0 m 27 ls [.int r_6])
    refine lv_if_eq (tgt := 34) hx hb d_M_see_27 (by decide) (fun cd => ?_) (fun cd => ?_)
    · have hf := it_e cd hf
      exact t_M_see_34 C  hf w (lv_sub hl [1, 2, 0] rfl)
    · have hf := if_e cd hf
      refine lv_iconst (v := 1) hx hb d_M_see_30 (by decide) ?_
      refine lv_goto (tgt := 35) hx hb d_M_see_31 (by decide) ?_
      refine lv_istore_n (lv' := [(3, .int 1), (2, .int x_1), (0, .ref (q 0)), (1, .int x1)]) hx hb d_M_see_35 rfl hl (by decide) rfl (fun ls hl => ?_)
      refine lv_iconst (v := 0) hx hb d_M_see_36 (by decide) ?_
      refine lv_istore (lv' := [(4, .int 0), (3, .int 1), (2, .int x_1), (0, .ref (q 0)), (1, .int x1)]) hx hb d_M_see_37 hl (by decide) rfl (fun ls hl => ?_)
      exact t_M_see_39 C  FU x1 x_1 1 0 σ_2 _ _ _ hf w (lv_sub hl [3, 4, 2, 1, 0] rfl)
def f_M_slipsOf_6b (k6 : Int32 → Int32 → Int32 → Int32 → Int32 → St → Option (Int32)) (x1 : Int32) (x2 : Int32) (x3 : Int32) (x4 : Int32) (x5 : Int32) (σ : St) : Option (Int32) :=
  bp (f_M_trierOf (sI σ 29) 1 σ) fun r_2 =>
  if r_2 < x5 then
    some x4
  else
    bp (f_M_trierOf (sI σ 29) 2 σ) fun r_4 =>
    bp (f_M_tiredBy x2 r_4 x1 σ) fun r_6 =>
    bp (f_M_heightBy r_6 x5 x3 σ) fun r_8 =>
    bp (f_M_cut r_8 (sA σ 11 (3 : Int32).toNatClampNeg) σ) fun r_10 =>
    gd (inB x1 4) <|
    if r_10 = (sA σ 14 x1.toNatClampNeg) then
      lt ((x4 + 1)) fun x_13 =>
      lt ((x5 + 1)) fun x_14 =>
      k6 x1 x2 x3 x_13 x_14 σ
    else
      lt ((x5 + 1)) fun x_12 =>
      k6 x1 x2 x3 x4 x_12 σ
def f_M_slipsOf_6 : Nat → Int32 → Int32 → Int32 → Int32 → Int32 → St → Option (Int32)
  | 0 => fun _ _ _ _ _ _ => none
  | n + 1 => f_M_slipsOf_6b   (f_M_slipsOf_6   n)
def f_M_slipsOf (x1 : Int32) (x2 : Int32) (x3 : Int32) (σ : St) : Option (Int32) :=
  f_M_slipsOf_6 FU x1 x2 x3 0 0 σ
set_option maxHeartbeats 4000000 in
set_option maxRecDepth 20000 in
theorem t_M_slipsOf_6b {r : Int32} {σ : St} (C : Cx g A p s m av meth c prog_13_method_88_code 6 "BellHammerModel" (some .int)) {k6 : Int32 → Int32 → Int32 → Int32 → Int32 → St → Option (Int32)} (hk6 : ∀ (x1 : Int32) (x2 : Int32) (x3 : Int32) (x4 : Int32) (x5 : Int32) (H : Heap) (locs : List Loc) (ls : Array Slot), k6 x1 x2 x3 x4 x5 σ = some r → Wd g (wM g q) A s σ H locs → lv_has ls 6 [(0, .ref (q 0)), (1, .int x1), (2, .int x2), (3, .int x3), (4, .int x4), (5, .int x5)] → WK p l e s m av below meth c 2 g (wM g q) A (some (.int r)) σ H locs (F0 m 6 ls []))  {x1 : Int32} {x2 : Int32} {x3 : Int32} {x4 : Int32} {x5 : Int32} {H : Heap} {locs : List Loc} {ls : Array Slot} (hf : f_M_slipsOf_6b  k6 x1 x2 x3 x4 x5 σ = some r) (w : Wd g (wM g q) A s σ H locs) (hl : lv_has ls 6 [(0, .ref (q 0)), (1, .int x1), (2, .int x2), (3, .int x3), (4, .int x4), (5, .int x5)]) : WK p l e s m av below meth c 2 g (wM g q) A (some (.int r)) σ H locs (F0 m 6 ls []) := by
  obtain ⟨hx, hb, hml, hown, hts, hK, hA, hZ, hlocks, hr, hN⟩ := id C
  unfold f_M_slipsOf_6b at hf
  refine lv_iload hx hb d_M_slipsOf_6 (lv_at hl 5 rfl) ?_
  refine lv_aload_n hx hb d_M_slipsOf_8 rfl (lv_at hl 0 rfl) ?_
  refine lv_aload_n hx hb d_M_slipsOf_9 rfl (lv_at hl 0 rfl) ?_
  refine mg_0_seenTrier C w k1172 d_M_slipsOf_10 ?_
  refine lv_iconst (v := 1) hx hb d_M_slipsOf_13 (by decide) ?_
  obtain ⟨r_2, h_1, hf⟩ := bp_e hf
  refine k_callV (As := [.int (sI σ 29), .int 1]) (rest := [.int x5]) C w (c_M_trierOf (q := q) h_1) cv_M_trierOf k1534 (mr_0 C w) (by decide) hl.1 rfl (Nat.le_of_ble_eq_true rfl) d_M_slipsOf_14 (fun H locs w => ?_)
  show WK p l e s m av below meth c 2 g (wM g q) A (some (.int r)) σ H locs (F0 m 17 ls [.int r_2, .int x5])
  refine lv_icmp_gt (tgt := 69) hx hb d_M_slipsOf_17 (by decide) (fun cd => ?_) (fun cd => ?_)
  · have hf := it_e cd hf
    refine lv_iload hx hb d_M_slipsOf_69 (lv_at hl 4 rfl) ?_
    cases some_e hf
    exact k_iret C w d_M_slipsOf_71
  · have hf := if_e cd hf
    refine lv_aload_n hx hb d_M_slipsOf_20 rfl (lv_at hl 0 rfl) ?_
    refine lv_aload_n hx hb d_M_slipsOf_21 rfl (lv_at hl 0 rfl) ?_
    refine lv_iload_n hx hb d_M_slipsOf_22 rfl (lv_at hl 2 rfl) ?_
    refine lv_aload_n hx hb d_M_slipsOf_23 rfl (lv_at hl 0 rfl) ?_
    refine lv_aload_n hx hb d_M_slipsOf_24 rfl (lv_at hl 0 rfl) ?_
    refine mg_0_seenTrier C w k1172 d_M_slipsOf_25 ?_
    refine lv_iconst (v := 2) hx hb d_M_slipsOf_28 (by decide) ?_
    obtain ⟨r_4, h_3, hf⟩ := bp_e hf
    refine k_callV (As := [.int (sI σ 29), .int 2]) (rest := [.int x2, .ref (q 0), .ref (q 0)]) C w (c_M_trierOf (q := q) h_3) cv_M_trierOf k1534 (mr_0 C w) (by decide) hl.1 rfl (Nat.le_of_ble_eq_true rfl) d_M_slipsOf_29 (fun H locs w => ?_)
    show WK p l e s m av below meth c 2 g (wM g q) A (some (.int r)) σ H locs (F0 m 32 ls [.int r_4, .int x2, .ref (q 0), .ref (q 0)])
    refine lv_iload_n hx hb d_M_slipsOf_32 rfl (lv_at hl 1 rfl) ?_
    obtain ⟨r_6, h_5, hf⟩ := bp_e hf
    refine k_callS (As := [.int x2, .int r_4, .int x1]) (rest := [.ref (q 0), .ref (q 0)]) C w (c_M_tiredBy (q := q) h_5) cv_M_tiredBy k1553 (by decide) hl.1 rfl (Nat.le_of_ble_eq_true rfl) d_M_slipsOf_33 (fun H locs w => ?_)
    show WK p l e s m av below meth c 2 g (wM g q) A (some (.int r)) σ H locs (F0 m 36 ls [.int r_6, .ref (q 0), .ref (q 0)])
    refine lv_iload hx hb d_M_slipsOf_36 (lv_at hl 5 rfl) ?_
    refine lv_iload_n hx hb d_M_slipsOf_38 rfl (lv_at hl 3 rfl) ?_
    obtain ⟨r_8, h_7, hf⟩ := bp_e hf
    refine k_callV (As := [.int r_6, .int x5, .int x3]) (rest := [.ref (q 0)]) C w (c_M_heightBy (q := q) h_7) cv_M_heightBy k1556 (mr_0 C w) (by decide) hl.1 rfl (Nat.le_of_ble_eq_true rfl) d_M_slipsOf_39 (fun H locs w => ?_)
    show WK p l e s m av below meth c 2 g (wM g q) A (some (.int r)) σ H locs (F0 m 42 ls [.int r_8, .ref (q 0)])
    refine lv_aload_n hx hb d_M_slipsOf_42 rfl (lv_at hl 0 rfl) ?_
    refine mg_0_now C w k1149 d_M_slipsOf_43 ?_
    refine lv_iconst (v := 3) hx hb d_M_slipsOf_46 (by decide) ?_
    refine ml_41 C w (by decide) d_M_slipsOf_47 ?_
    obtain ⟨r_10, h_9, hf⟩ := bp_e hf
    refine k_callV (As := [.int r_8, .int (sA σ 11 (3 : Int32).toNatClampNeg)]) (rest := []) C w (c_M_cut (q := q) h_9) cv_M_cut k1563 (mr_0 C w) (by decide) hl.1 rfl (Nat.le_of_ble_eq_true rfl) d_M_slipsOf_48 (fun H locs w => ?_)
    show WK p l e s m av below meth c 2 g (wM g q) A (some (.int r)) σ H locs (F0 m 51 ls [.int r_10])
    refine lv_aload_n hx hb d_M_slipsOf_51 rfl (lv_at hl 0 rfl) ?_
    refine mg_0_seen C w k1173 d_M_slipsOf_52 ?_
    refine lv_iload_n hx hb d_M_slipsOf_55 rfl (lv_at hl 1 rfl) ?_
    obtain ⟨g_11, hf⟩ := gd_e hf
    refine ml_44 C w g_11 d_M_slipsOf_56 ?_
    refine lv_icmp_ne (tgt := 63) hx hb d_M_slipsOf_57 (by decide) (fun cd => ?_) (fun cd => ?_)
    · have hf := if_e cd hf
      obtain ⟨x_12, ex_12⟩ : ∃ y : Int32, y = (x5 + 1) := ⟨_, rfl⟩
      have hf := lt_e ex_12 hf
      refine lv_iinc (v := x_12) (lv' := [(5, .int x_12), (0, .ref (q 0)), (1, .int x1), (2, .int x2), (3, .int x3), (4, .int x4)]) hx hb d_M_slipsOf_63 hl (k := 5) rfl (by rw [ex_12]; rfl) (by decide) rfl (fun ls hl => ?_)
      refine lv_goto (tgt := 6) hx hb d_M_slipsOf_66 (by decide) ?_
      exact hk6 x1 x2 x3 x4 x_12  _ _ _ hf w (lv_sub hl [1, 2, 3, 4, 5, 0] rfl)
    · have hf := it_e cd hf
      obtain ⟨x_13, ex_13⟩ : ∃ y : Int32, y = (x4 + 1) := ⟨_, rfl⟩
      have hf := lt_e ex_13 hf
      refine lv_iinc (v := x_13) (lv' := [(4, .int x_13), (0, .ref (q 0)), (1, .int x1), (2, .int x2), (3, .int x3), (5, .int x5)]) hx hb d_M_slipsOf_60 hl (k := 4) rfl (by rw [ex_13]; rfl) (by decide) rfl (fun ls hl => ?_)
      obtain ⟨x_14, ex_14⟩ : ∃ y : Int32, y = (x5 + 1) := ⟨_, rfl⟩
      have hf := lt_e ex_14 hf
      refine lv_iinc (v := x_14) (lv' := [(5, .int x_14), (4, .int x_13), (0, .ref (q 0)), (1, .int x1), (2, .int x2), (3, .int x3)]) hx hb d_M_slipsOf_63 hl (k := 5) rfl (by rw [ex_14]; rfl) (by decide) rfl (fun ls hl => ?_)
      refine lv_goto (tgt := 6) hx hb d_M_slipsOf_66 (by decide) ?_
      exact hk6 x1 x2 x3 x_13 x_14  _ _ _ hf w (lv_sub hl [2, 3, 4, 5, 1, 0] rfl)
set_option maxHeartbeats 4000000 in
set_option maxRecDepth 20000 in
theorem t_M_slipsOf_6 {r : Int32} {σ : St} (C : Cx g A p s m av meth c prog_13_method_88_code 6 "BellHammerModel" (some .int))  : ∀ (n : Nat) (x1 : Int32) (x2 : Int32) (x3 : Int32) (x4 : Int32) (x5 : Int32) (H : Heap) (locs : List Loc) (ls : Array Slot), f_M_slipsOf_6   n x1 x2 x3 x4 x5 σ = some r → Wd g (wM g q) A s σ H locs → lv_has ls 6 [(0, .ref (q 0)), (1, .int x1), (2, .int x2), (3, .int x3), (4, .int x4), (5, .int x5)] → WK p l e s m av below meth c 2 g (wM g q) A (some (.int r)) σ H locs (F0 m 6 ls []) := by
  intro n
  induction n with
  | zero => intro x1 x2 x3 x4 x5 H locs ls hf; exact absurd hf (by intro z; cases z)
  | succ n ih => intro x1 x2 x3 x4 x5 H locs ls hf w hl; exact t_M_slipsOf_6b C  ih hf w hl
set_option maxHeartbeats 4000000 in
set_option maxRecDepth 20000 in
theorem c_M_slipsOf {l : Launch} {g : GX} {q : Nat → Nat} {x1 : Int32} {x2 : Int32} {x3 : Int32}  {σ : St} {r : Int32} (hf : f_M_slipsOf  x1 x2 x3 σ = some r) : KK l y_M_slipsOf prog_13_method_88_code 6 (some .int) 2 g (wM g q) σ [.ref (q 0), .int x1, .int x2, .int x3] (some (.int r)) (wM g q) σ := by
  refine KK_of (plainFor_of_name (by decide)) (Nat.le_of_ble_eq_true rfl) (fun p e s m below meth c A ls C w hl => ?_)
  have hl : lv_has ls 6 [(0, .ref (q 0)), (1, .int x1), (2, .int x2), (3, .int x3)] := hl
  obtain ⟨hx, hb, hml, hown, hts, hK, hA, hZ, hlocks, hr, hN⟩ := id C
  unfold f_M_slipsOf at hf
  refine lv_iconst (v := 0) hx hb d_M_slipsOf_0 (by decide) ?_
  refine lv_istore (lv' := [(4, .int 0), (0, .ref (q 0)), (1, .int x1), (2, .int x2), (3, .int x3)]) hx hb d_M_slipsOf_1 hl (by decide) rfl (fun ls hl => ?_)
  refine lv_iconst (v := 0) hx hb d_M_slipsOf_3 (by decide) ?_
  refine lv_istore (lv' := [(5, .int 0), (4, .int 0), (0, .ref (q 0)), (1, .int x1), (2, .int x2), (3, .int x3)]) hx hb d_M_slipsOf_4 hl (by decide) rfl (fun ls hl => ?_)
  exact t_M_slipsOf_6 C  FU x1 x2 x3 0 0  _ _ _ hf w (lv_sub hl [2, 3, 4, 5, 1, 0] rfl)
def f_M_waysOf_4b (k4 : Int32 → Int32 → Int32 → St → Option (Int32)) (x1 : Int32) (x2 : Int32) (x3 : Int32) (σ : St) : Option (Int32) :=
  if (sI σ 28) ≤ x3 then
    some x2
  else
    bp (f_M_slipsOf x3 x1 0 σ) fun r_2 =>
    bp (f_M_slipsOf x3 x1 1 σ) fun r_4 =>
    lt ((x2 * (r_2 + r_4))) fun x_5 =>
    lt ((x3 + 1)) fun x_6 =>
    k4 x1 x_5 x_6 σ
def f_M_waysOf_4 : Nat → Int32 → Int32 → Int32 → St → Option (Int32)
  | 0 => fun _ _ _ _ => none
  | n + 1 => f_M_waysOf_4b   (f_M_waysOf_4   n)
def f_M_waysOf (x1 : Int32) (σ : St) : Option (Int32) :=
  f_M_waysOf_4 FU x1 1 0 σ
set_option maxHeartbeats 4000000 in
set_option maxRecDepth 20000 in
theorem t_M_waysOf_4b {r : Int32} {σ : St} (C : Cx g A p s m av meth c prog_13_method_89_code 4 "BellHammerModel" (some .int)) {k4 : Int32 → Int32 → Int32 → St → Option (Int32)} (hk4 : ∀ (x1 : Int32) (x2 : Int32) (x3 : Int32) (H : Heap) (locs : List Loc) (ls : Array Slot), k4 x1 x2 x3 σ = some r → Wd g (wM g q) A s σ H locs → lv_has ls 4 [(0, .ref (q 0)), (1, .int x1), (2, .int x2), (3, .int x3)] → WK p l e s m av below meth c 3 g (wM g q) A (some (.int r)) σ H locs (F0 m 4 ls []))  {x1 : Int32} {x2 : Int32} {x3 : Int32} {H : Heap} {locs : List Loc} {ls : Array Slot} (hf : f_M_waysOf_4b  k4 x1 x2 x3 σ = some r) (w : Wd g (wM g q) A s σ H locs) (hl : lv_has ls 4 [(0, .ref (q 0)), (1, .int x1), (2, .int x2), (3, .int x3)]) : WK p l e s m av below meth c 3 g (wM g q) A (some (.int r)) σ H locs (F0 m 4 ls []) := by
  obtain ⟨hx, hb, hml, hown, hts, hK, hA, hZ, hlocks, hr, hN⟩ := id C
  unfold f_M_waysOf_4b at hf
  refine lv_iload_n hx hb d_M_waysOf_4 rfl (lv_at hl 3 rfl) ?_
  refine lv_aload_n hx hb d_M_waysOf_5 rfl (lv_at hl 0 rfl) ?_
  refine mg_0_seenMany C w k1171 d_M_waysOf_6 ?_
  refine lv_icmp_ge (tgt := 36) hx hb d_M_waysOf_9 (by decide) (fun cd => ?_) (fun cd => ?_)
  · have hf := it_e cd hf
    refine lv_iload_n hx hb d_M_waysOf_36 rfl (lv_at hl 2 rfl) ?_
    cases some_e hf
    exact k_iret C w d_M_waysOf_37
  · have hf := if_e cd hf
    refine lv_iload_n hx hb d_M_waysOf_12 rfl (lv_at hl 2 rfl) ?_
    refine lv_aload_n hx hb d_M_waysOf_13 rfl (lv_at hl 0 rfl) ?_
    refine lv_iload_n hx hb d_M_waysOf_14 rfl (lv_at hl 3 rfl) ?_
    refine lv_iload_n hx hb d_M_waysOf_15 rfl (lv_at hl 1 rfl) ?_
    refine lv_iconst (v := 0) hx hb d_M_waysOf_16 (by decide) ?_
    obtain ⟨r_2, h_1, hf⟩ := bp_e hf
    refine k_callV (As := [.int x3, .int x1, .int 0]) (rest := [.int x2]) C w (c_M_slipsOf (q := q) h_1) cv_M_slipsOf k1707 (mr_0 C w) (by decide) hl.1 rfl (Nat.le_of_ble_eq_true rfl) d_M_waysOf_17 (fun H locs w => ?_)
    show WK p l e s m av below meth c 3 g (wM g q) A (some (.int r)) σ H locs (F0 m 20 ls [.int r_2, .int x2])
    refine lv_aload_n hx hb d_M_waysOf_20 rfl (lv_at hl 0 rfl) ?_
    refine lv_iload_n hx hb d_M_waysOf_21 rfl (lv_at hl 3 rfl) ?_
    refine lv_iload_n hx hb d_M_waysOf_22 rfl (lv_at hl 1 rfl) ?_
    refine lv_iconst (v := 1) hx hb d_M_waysOf_23 (by decide) ?_
    obtain ⟨r_4, h_3, hf⟩ := bp_e hf
    refine k_callV (As := [.int x3, .int x1, .int 1]) (rest := [.int r_2, .int x2]) C w (c_M_slipsOf (q := q) h_3) cv_M_slipsOf k1707 (mr_0 C w) (by decide) hl.1 rfl (Nat.le_of_ble_eq_true rfl) d_M_waysOf_24 (fun H locs w => ?_)
    show WK p l e s m av below meth c 3 g (wM g q) A (some (.int r)) σ H locs (F0 m 27 ls [.int r_4, .int r_2, .int x2])
    refine lv_iadd hx hb d_M_waysOf_27 ?_
    refine lv_imul hx hb d_M_waysOf_28 ?_
    refine lv_topi (fun x_5 ex_5 => ?_)
    have hf := lt_e ex_5 hf
    refine lv_istore_n (lv' := [(2, .int x_5), (0, .ref (q 0)), (1, .int x1), (3, .int x3)]) hx hb d_M_waysOf_29 rfl hl (by decide) rfl (fun ls hl => ?_)
    obtain ⟨x_6, ex_6⟩ : ∃ y : Int32, y = (x3 + 1) := ⟨_, rfl⟩
    have hf := lt_e ex_6 hf
    refine lv_iinc (v := x_6) (lv' := [(3, .int x_6), (2, .int x_5), (0, .ref (q 0)), (1, .int x1)]) hx hb d_M_waysOf_30 hl (k := 3) rfl (by rw [ex_6]; rfl) (by decide) rfl (fun ls hl => ?_)
    refine lv_goto (tgt := 4) hx hb d_M_waysOf_33 (by decide) ?_
    exact hk4 x1 x_5 x_6  _ _ _ hf w (lv_sub hl [2, 3, 1, 0] rfl)
set_option maxHeartbeats 4000000 in
set_option maxRecDepth 20000 in
theorem t_M_waysOf_4 {r : Int32} {σ : St} (C : Cx g A p s m av meth c prog_13_method_89_code 4 "BellHammerModel" (some .int))  : ∀ (n : Nat) (x1 : Int32) (x2 : Int32) (x3 : Int32) (H : Heap) (locs : List Loc) (ls : Array Slot), f_M_waysOf_4   n x1 x2 x3 σ = some r → Wd g (wM g q) A s σ H locs → lv_has ls 4 [(0, .ref (q 0)), (1, .int x1), (2, .int x2), (3, .int x3)] → WK p l e s m av below meth c 3 g (wM g q) A (some (.int r)) σ H locs (F0 m 4 ls []) := by
  intro n
  induction n with
  | zero => intro x1 x2 x3 H locs ls hf; exact absurd hf (by intro z; cases z)
  | succ n ih => intro x1 x2 x3 H locs ls hf w hl; exact t_M_waysOf_4b C  ih hf w hl
set_option maxHeartbeats 4000000 in
set_option maxRecDepth 20000 in
theorem c_M_waysOf {l : Launch} {g : GX} {q : Nat → Nat} {x1 : Int32}  {σ : St} {r : Int32} (hf : f_M_waysOf  x1 σ = some r) : KK l y_M_waysOf prog_13_method_89_code 4 (some .int) 3 g (wM g q) σ [.ref (q 0), .int x1] (some (.int r)) (wM g q) σ := by
  refine KK_of (plainFor_of_name (by decide)) (Nat.le_of_ble_eq_true rfl) (fun p e s m below meth c A ls C w hl => ?_)
  have hl : lv_has ls 4 [(0, .ref (q 0)), (1, .int x1)] := hl
  obtain ⟨hx, hb, hml, hown, hts, hK, hA, hZ, hlocks, hr, hN⟩ := id C
  unfold f_M_waysOf at hf
  refine lv_iconst (v := 1) hx hb d_M_waysOf_0 (by decide) ?_
  refine lv_istore_n (lv' := [(2, .int 1), (0, .ref (q 0)), (1, .int x1)]) hx hb d_M_waysOf_1 rfl hl (by decide) rfl (fun ls hl => ?_)
  refine lv_iconst (v := 0) hx hb d_M_waysOf_2 (by decide) ?_
  refine lv_istore_n (lv' := [(3, .int 0), (2, .int 1), (0, .ref (q 0)), (1, .int x1)]) hx hb d_M_waysOf_3 rfl hl (by decide) rfl (fun ls hl => ?_)
  exact t_M_waysOf_4 C  FU x1 1 0  _ _ _ hf w (lv_sub hl [2, 3, 1, 0] rfl)
def f_M_was (x1 : Int32) (σ : St) : Option (Int32) :=
  if (sI σ 28) = 0 then
    some (-1)
  else
    bp (f_M_isIn ((x1).toInt64) (-1) ((((sI σ 28) - 1)).toInt64) σ) fun r_2 =>
    if r_2 = 0 then
      some (-1)
    else
      bp (f_M_trierOf (sI σ 29) 0 σ) fun r_4 =>
      bp (f_M_waysOf r_4 σ) fun r_6 =>
      if x1 = (-1) then
        some r_6
      else
        if r_6 = 0 then
          some 0
        else
          bp (f_M_slipsOf x1 r_4 1 σ) fun r_8 =>
          bp (f_M_slipsOf x1 r_4 0 σ) fun r_10 =>
          gd (nz (r_8 + r_10)) <|
          some ((1000 * r_8) / (r_8 + r_10))
set_option maxHeartbeats 4000000 in
set_option maxRecDepth 20000 in
theorem c_M_was {l : Launch} {g : GX} {q : Nat → Nat} {x1 : Int32}  {σ : St} {r : Int32} (hf : f_M_was  x1 σ = some r) : KK l y_M_was prog_13_method_90_code 5 (some .int) 4 g (wM g q) σ [.ref (q 0), .int x1] (some (.int r)) (wM g q) σ := by
  refine KK_of (plainFor_of_name (by decide)) (Nat.le_of_ble_eq_true rfl) (fun p e s m below meth c A ls C w hl => ?_)
  have hl : lv_has ls 5 [(0, .ref (q 0)), (1, .int x1)] := hl
  obtain ⟨hx, hb, hml, hown, hts, hK, hA, hZ, hlocks, hr, hN⟩ := id C
  unfold f_M_was at hf
  refine lv_aload_n hx hb d_M_was_0 rfl (lv_at hl 0 rfl) ?_
  refine mg_0_seenMany C w k1171 d_M_was_1 ?_
  refine lv_if_eq (tgt := 25) hx hb d_M_was_4 (by decide) (fun cd => ?_) (fun cd => ?_)
  · have hf := it_e cd hf
    refine lv_iconst (v := (-1)) hx hb d_M_was_25 (by decide) ?_
    cases some_e hf
    exact k_iret C w d_M_was_26
  · have hf := if_e cd hf
    refine lv_iload_n hx hb d_M_was_7 rfl (lv_at hl 1 rfl) ?_
    refine lv_i2l hx hb d_M_was_8 rfl ?_
    refine lv_ldc2 (v := (-1)) hx hb hown (hts _ k1635) d_M_was_9 ?_
    refine lv_aload_n hx hb d_M_was_12 rfl (lv_at hl 0 rfl) ?_
    refine mg_0_seenMany C w k1171 d_M_was_13 ?_
    refine lv_iconst (v := 1) hx hb d_M_was_16 (by decide) ?_
    refine lv_isub hx hb d_M_was_17 ?_
    refine lv_i2l hx hb d_M_was_18 rfl ?_
    obtain ⟨r_2, h_1, hf⟩ := bp_e hf
    refine k_callS (As := [.long (x1).toInt64, .long (-1), .long (((sI σ 28) - 1)).toInt64]) (rest := []) C w (c_M_isIn (q := q) h_1) cv_M_isIn k1410 (by decide) hl.1 rfl (Nat.le_of_ble_eq_true rfl) d_M_was_19 (fun H locs w => ?_)
    show WK p l e s m _ below meth c 4 g (wM g q) A (some (.int r)) σ H locs (F0 m 22 ls [.int r_2])
    refine lv_if_ne (tgt := 27) hx hb d_M_was_22 (by decide) (fun cd => ?_) (fun cd => ?_)
    · have hf := if_e cd hf
      refine lv_aload_n hx hb d_M_was_27 rfl (lv_at hl 0 rfl) ?_
      refine lv_aload_n hx hb d_M_was_28 rfl (lv_at hl 0 rfl) ?_
      refine mg_0_seenTrier C w k1172 d_M_was_29 ?_
      refine lv_iconst (v := 0) hx hb d_M_was_32 (by decide) ?_
      obtain ⟨r_4, h_3, hf⟩ := bp_e hf
      refine k_callV (As := [.int (sI σ 29), .int 0]) (rest := []) C w (c_M_trierOf (q := q) h_3) cv_M_trierOf k1534 (mr_0 C w) (by decide) hl.1 rfl (Nat.le_of_ble_eq_true rfl) d_M_was_33 (fun H locs w => ?_)
      show WK p l e s m _ below meth c 4 g (wM g q) A (some (.int r)) σ H locs (F0 m 36 ls [.int r_4])
      refine lv_istore_n (lv' := [(2, .int r_4), (0, .ref (q 0)), (1, .int x1)]) hx hb d_M_was_36 rfl hl (by decide) rfl (fun ls hl => ?_)
      refine lv_aload_n hx hb d_M_was_37 rfl (lv_at hl 1 rfl) ?_
      refine lv_iload_n hx hb d_M_was_38 rfl (lv_at hl 0 rfl) ?_
      obtain ⟨r_6, h_5, hf⟩ := bp_e hf
      refine k_callV (As := [.int r_4]) (rest := []) C w (c_M_waysOf (q := q) h_5) cv_M_waysOf k1703 (mr_0 C w) (by decide) hl.1 rfl (Nat.le_of_ble_eq_true rfl) d_M_was_39 (fun H locs w => ?_)
      show WK p l e s m _ below meth c 4 g (wM g q) A (some (.int r)) σ H locs (F0 m 42 ls [.int r_6])
      refine lv_istore_n (lv' := [(3, .int r_6), (2, .int r_4), (0, .ref (q 0)), (1, .int x1)]) hx hb d_M_was_42 rfl hl (by decide) rfl (fun ls hl => ?_)
      refine lv_iload_n hx hb d_M_was_43 rfl (lv_at hl 3 rfl) ?_
      refine lv_iconst (v := (-1)) hx hb d_M_was_44 (by decide) ?_
      refine lv_icmp_ne (tgt := 50) hx hb d_M_was_45 (by decide) (fun cd => ?_) (fun cd => ?_)
      · have hf := if_e cd hf
        refine lv_iload_n hx hb d_M_was_50 rfl (lv_at hl 0 rfl) ?_
        refine lv_if_ne (tgt := 56) hx hb d_M_was_51 (by decide) (fun cd => ?_) (fun cd => ?_)
        · have hf := if_e cd hf
          refine lv_aload_n hx hb d_M_was_56 rfl (lv_at hl 2 rfl) ?_
          refine lv_iload_n hx hb d_M_was_57 rfl (lv_at hl 3 rfl) ?_
          refine lv_iload_n hx hb d_M_was_58 rfl (lv_at hl 1 rfl) ?_
          refine lv_iconst (v := 1) hx hb d_M_was_59 (by decide) ?_
          obtain ⟨r_8, h_7, hf⟩ := bp_e hf
          refine k_callV (As := [.int x1, .int r_4, .int 1]) (rest := []) C w (c_M_slipsOf (q := q) h_7) cv_M_slipsOf k1707 (mr_0 C w) (by decide) hl.1 rfl (Nat.le_of_ble_eq_true rfl) d_M_was_60 (fun H locs w => ?_)
          show WK p l e s m _ below meth c 4 g (wM g q) A (some (.int r)) σ H locs (F0 m 63 ls [.int r_8])
          refine lv_istore (lv' := [(4, .int r_8), (3, .int r_6), (2, .int r_4), (0, .ref (q 0)), (1, .int x1)]) hx hb d_M_was_63 hl (by decide) rfl (fun ls hl => ?_)
          refine lv_sipush (v := 1000) hx hb d_M_was_65 (by decide) ?_
          refine lv_iload hx hb d_M_was_68 (lv_at hl 0 rfl) ?_
          refine lv_imul hx hb d_M_was_70 ?_
          refine lv_iload hx hb d_M_was_71 (lv_at hl 0 rfl) ?_
          refine lv_aload_n hx hb d_M_was_73 rfl (lv_at hl 3 rfl) ?_
          refine lv_iload_n hx hb d_M_was_74 rfl (lv_at hl 4 rfl) ?_
          refine lv_iload_n hx hb d_M_was_75 rfl (lv_at hl 2 rfl) ?_
          refine lv_iconst (v := 0) hx hb d_M_was_76 (by decide) ?_
          obtain ⟨r_10, h_9, hf⟩ := bp_e hf
          refine k_callV (As := [.int x1, .int r_4, .int 0]) (rest := [.int r_8, .int (1000 * r_8)]) C w (c_M_slipsOf (q := q) h_9) cv_M_slipsOf k1707 (mr_0 C w) (by decide) hl.1 rfl (Nat.le_of_ble_eq_true rfl) d_M_was_77 (fun H locs w => ?_)
          show WK p l e s m _ below meth c 4 g (wM g q) A (some (.int r)) σ H locs (F0 m 80 ls [.int r_10, .int r_8, .int (1000 * r_8)])
          refine lv_iadd hx hb d_M_was_80 ?_
          obtain ⟨g_11, hf⟩ := gd_e hf
          refine lv_idiv hx hb d_M_was_81 (nz_e g_11) ?_
          cases some_e hf
          exact k_iret C w d_M_was_82
        · have hf := it_e cd hf
          refine lv_iconst (v := 0) hx hb d_M_was_54 (by decide) ?_
          cases some_e hf
          exact k_iret C w d_M_was_55
      · have hf := it_e cd hf
        refine lv_iload_n hx hb d_M_was_48 rfl (lv_at hl 0 rfl) ?_
        cases some_e hf
        exact k_iret C w d_M_was_49
    · have hf := it_e cd hf
      refine lv_iconst (v := (-1)) hx hb d_M_was_25 (by decide) ?_
      cases some_e hf
      exact k_iret C w d_M_was_26
def f_M_strong_61 (k31 : Int32 → Int32 → Int32 → Int32 → Int32 → St → Option (Int32)) (x1 : Int32) (x2 : Int32) (x3 : Int32) (x5 : Int32) (σ : St) : Option (Int32) :=
  lt ((x5 + 1)) fun x_1 =>
  k31 x1 x2 x3 x5 x_1 σ
def f_M_strong_31b (k31 : Int32 → Int32 → Int32 → Int32 → Int32 → St → Option (Int32)) (x1 : Int32) (x2 : Int32) (x3 : Int32) (x4 : Int32) (x5 : Int32) (σ : St) : Option (Int32) :=
  if 100 ≤ x5 then
    if x1 = 0 then
      some x2
    else
      if x1 = 1 then
        some x3
      else
        some x4
  else
    bp (f_M_waysOf x5 σ) fun r_2 =>
    if r_2 = 0 then
      lt ((x5 + 1)) fun x_4 =>
      k31 x1 x2 x3 x4 x_4 σ
    else
      lt ((x2 + 1)) fun x_3 =>
      if x3 = (-1) then
        f_M_strong_61 k31 x1 x_3 x5 x5 σ
      else
        f_M_strong_61 k31 x1 x_3 x3 x5 σ
def f_M_strong_31 : Nat → Int32 → Int32 → Int32 → Int32 → Int32 → St → Option (Int32)
  | 0 => fun _ _ _ _ _ _ => none
  | n + 1 => f_M_strong_31b   (f_M_strong_31   n)
def f_M_strong (x1 : Int32) (σ : St) : Option (Int32) :=
  if (sI σ 28) = 0 then
    some (-1)
  else
    bp (f_M_isIn ((x1).toInt64) 0 2 σ) fun r_2 =>
    if r_2 = 0 then
      some (-1)
    else
      f_M_strong_31 FU x1 0 (-1) (-1) 1 σ
set_option maxHeartbeats 4000000 in
set_option maxRecDepth 20000 in
theorem t_M_strong_61 {r : Int32} {σ : St} (C : Cx g A p s m av meth c prog_13_method_91_code 6 "BellHammerModel" (some .int)) {k31 : Int32 → Int32 → Int32 → Int32 → Int32 → St → Option (Int32)} (hk31 : ∀ (x1 : Int32) (x2 : Int32) (x3 : Int32) (x4 : Int32) (x5 : Int32) (H : Heap) (locs : List Loc) (ls : Array Slot), k31 x1 x2 x3 x4 x5 σ = some r → Wd g (wM g q) A s σ H locs → lv_has ls 6 [(0, .ref (q 0)), (1, .int x1), (2, .int x2), (3, .int x3), (4, .int x4), (5, .int x5)] → WK p l e s m av below meth c 4 g (wM g q) A (some (.int r)) σ H locs (F0 m 31 ls []))  {x1 : Int32} {x2 : Int32} {x3 : Int32} {x5 : Int32} {H : Heap} {locs : List Loc} {ls : Array Slot} (hf : f_M_strong_61  k31 x1 x2 x3 x5 σ = some r) (w : Wd g (wM g q) A s σ H locs) (hl : lv_has ls 6 [(0, .ref (q 0)), (1, .int x1), (2, .int x2), (3, .int x3), (5, .int x5)]) : WK p l e s m av below meth c 4 g (wM g q) A (some (.int r)) σ H locs (F0 m 61 ls []) := by
  obtain ⟨hx, hb, hml, hown, hts, hK, hA, hZ, hlocks, hr, hN⟩ := id C
  unfold f_M_strong_61 at hf
  refine lv_iload hx hb d_M_strong_61 (lv_at hl 4 rfl) ?_
  refine lv_istore (lv' := [(4, .int x5), (0, .ref (q 0)), (1, .int x1), (2, .int x2), (3, .int x3), (5, .int x5)]) hx hb d_M_strong_63 hl (by decide) rfl (fun ls hl => ?_)
  obtain ⟨x_1, ex_1⟩ : ∃ y : Int32, y = (x5 + 1) := ⟨_, rfl⟩
  have hf := lt_e ex_1 hf
  refine lv_iinc (v := x_1) (lv' := [(5, .int x_1), (4, .int x5), (0, .ref (q 0)), (1, .int x1), (2, .int x2), (3, .int x3)]) hx hb d_M_strong_65 hl (k := 5) rfl (by rw [ex_1]; rfl) (by decide) rfl (fun ls hl => ?_)
  refine lv_goto (tgt := 31) hx hb d_M_strong_68 (by decide) ?_
  exact hk31 x1 x2 x3 x5 x_1  _ _ _ hf w (lv_sub hl [2, 3, 4, 5, 1, 0] rfl)
set_option maxHeartbeats 4000000 in
set_option maxRecDepth 20000 in
theorem t_M_strong_31b {r : Int32} {σ : St} (C : Cx g A p s m av meth c prog_13_method_91_code 6 "BellHammerModel" (some .int)) {k31 : Int32 → Int32 → Int32 → Int32 → Int32 → St → Option (Int32)} (hk31 : ∀ (x1 : Int32) (x2 : Int32) (x3 : Int32) (x4 : Int32) (x5 : Int32) (H : Heap) (locs : List Loc) (ls : Array Slot), k31 x1 x2 x3 x4 x5 σ = some r → Wd g (wM g q) A s σ H locs → lv_has ls 6 [(0, .ref (q 0)), (1, .int x1), (2, .int x2), (3, .int x3), (4, .int x4), (5, .int x5)] → WK p l e s m av below meth c 4 g (wM g q) A (some (.int r)) σ H locs (F0 m 31 ls []))  {x1 : Int32} {x2 : Int32} {x3 : Int32} {x4 : Int32} {x5 : Int32} {H : Heap} {locs : List Loc} {ls : Array Slot} (hf : f_M_strong_31b  k31 x1 x2 x3 x4 x5 σ = some r) (w : Wd g (wM g q) A s σ H locs) (hl : lv_has ls 6 [(0, .ref (q 0)), (1, .int x1), (2, .int x2), (3, .int x3), (4, .int x4), (5, .int x5)]) : WK p l e s m av below meth c 4 g (wM g q) A (some (.int r)) σ H locs (F0 m 31 ls []) := by
  obtain ⟨hx, hb, hml, hown, hts, hK, hA, hZ, hlocks, hr, hN⟩ := id C
  unfold f_M_strong_31b at hf
  refine lv_iload hx hb d_M_strong_31 (lv_at hl 5 rfl) ?_
  refine lv_bipush (v := 100) hx hb d_M_strong_33 (by decide) ?_
  refine lv_icmp_ge (tgt := 71) hx hb d_M_strong_35 (by decide) (fun cd => ?_) (fun cd => ?_)
  · have hf := it_e cd hf
    refine lv_iload_n hx hb d_M_strong_71 rfl (lv_at hl 1 rfl) ?_
    refine lv_if_ne (tgt := 79) hx hb d_M_strong_72 (by decide) (fun cd => ?_) (fun cd => ?_)
    · have hf := if_e cd hf
      refine lv_iload_n hx hb d_M_strong_79 rfl (lv_at hl 1 rfl) ?_
      refine lv_iconst (v := 1) hx hb d_M_strong_80 (by decide) ?_
      refine lv_icmp_ne (tgt := 88) hx hb d_M_strong_81 (by decide) (fun cd => ?_) (fun cd => ?_)
      · have hf := if_e cd hf
        refine lv_iload hx hb d_M_strong_88 (lv_at hl 4 rfl) ?_
        cases some_e hf
        exact k_iret C w d_M_strong_90
      · have hf := it_e cd hf
        refine lv_iload_n hx hb d_M_strong_84 rfl (lv_at hl 3 rfl) ?_
        refine lv_goto (tgt := 90) hx hb d_M_strong_85 (by decide) ?_
        cases some_e hf
        exact k_iret C w d_M_strong_90
    · have hf := it_e cd hf
      refine lv_iload_n hx hb d_M_strong_75 rfl (lv_at hl 2 rfl) ?_
      refine lv_goto (tgt := 90) hx hb d_M_strong_76 (by decide) ?_
      cases some_e hf
      exact k_iret C w d_M_strong_90
  · have hf := if_e cd hf
    refine lv_aload_n hx hb d_M_strong_38 rfl (lv_at hl 0 rfl) ?_
    refine lv_iload hx hb d_M_strong_39 (lv_at hl 5 rfl) ?_
    obtain ⟨r_2, h_1, hf⟩ := bp_e hf
    refine k_callV (As := [.int x5]) (rest := []) C w (c_M_waysOf (q := q) h_1) cv_M_waysOf k1703 (mr_0 C w) (by decide) hl.1 rfl (Nat.le_of_ble_eq_true rfl) d_M_strong_41 (fun H locs w => ?_)
    show WK p l e s m av below meth c 4 g (wM g q) A (some (.int r)) σ H locs (F0 m 44 ls [.int r_2])
    refine lv_if_ne (tgt := 50) hx hb d_M_strong_44 (by decide) (fun cd => ?_) (fun cd => ?_)
    · have hf := if_e cd hf
      obtain ⟨x_3, ex_3⟩ : ∃ y : Int32, y = (x2 + 1) := ⟨_, rfl⟩
      have hf := lt_e ex_3 hf
      refine lv_iinc (v := x_3) (lv' := [(2, .int x_3), (0, .ref (q 0)), (1, .int x1), (3, .int x3), (4, .int x4), (5, .int x5)]) hx hb d_M_strong_50 hl (k := 2) rfl (by rw [ex_3]; rfl) (by decide) rfl (fun ls hl => ?_)
      refine lv_iload_n hx hb d_M_strong_53 rfl (lv_at hl 3 rfl) ?_
      refine lv_iconst (v := (-1)) hx hb d_M_strong_54 (by decide) ?_
      refine lv_icmp_ne (tgt := 61) hx hb d_M_strong_55 (by decide) (fun cd => ?_) (fun cd => ?_)
      · have hf := if_e cd hf
        exact t_M_strong_61 C hk31 hf w (lv_sub hl [1, 2, 0, 3, 5] rfl)
      · have hf := it_e cd hf
        refine lv_iload hx hb d_M_strong_58 (lv_at hl 5 rfl) ?_
        refine lv_istore_n (lv' := [(3, .int x5), (2, .int x_3), (0, .ref (q 0)), (1, .int x1), (4, .int x4), (5, .int x5)]) hx hb d_M_strong_60 rfl hl (by decide) rfl (fun ls hl => ?_)
        exact t_M_strong_61 C hk31 hf w (lv_sub hl [2, 3, 1, 0, 5] rfl)
    · have hf := it_e cd hf
      refine lv_goto (tgt := 65) hx hb d_M_strong_47 (by decide) ?_
      obtain ⟨x_4, ex_4⟩ : ∃ y : Int32, y = (x5 + 1) := ⟨_, rfl⟩
      have hf := lt_e ex_4 hf
      refine lv_iinc (v := x_4) (lv' := [(5, .int x_4), (0, .ref (q 0)), (1, .int x1), (2, .int x2), (3, .int x3), (4, .int x4)]) hx hb d_M_strong_65 hl (k := 5) rfl (by rw [ex_4]; rfl) (by decide) rfl (fun ls hl => ?_)
      refine lv_goto (tgt := 31) hx hb d_M_strong_68 (by decide) ?_
      exact hk31 x1 x2 x3 x4 x_4  _ _ _ hf w (lv_sub hl [1, 2, 3, 4, 5, 0] rfl)
set_option maxHeartbeats 4000000 in
set_option maxRecDepth 20000 in
theorem t_M_strong_31 {r : Int32} {σ : St} (C : Cx g A p s m av meth c prog_13_method_91_code 6 "BellHammerModel" (some .int))  : ∀ (n : Nat) (x1 : Int32) (x2 : Int32) (x3 : Int32) (x4 : Int32) (x5 : Int32) (H : Heap) (locs : List Loc) (ls : Array Slot), f_M_strong_31   n x1 x2 x3 x4 x5 σ = some r → Wd g (wM g q) A s σ H locs → lv_has ls 6 [(0, .ref (q 0)), (1, .int x1), (2, .int x2), (3, .int x3), (4, .int x4), (5, .int x5)] → WK p l e s m av below meth c 4 g (wM g q) A (some (.int r)) σ H locs (F0 m 31 ls []) := by
  intro n
  induction n with
  | zero => intro x1 x2 x3 x4 x5 H locs ls hf; exact absurd hf (by intro z; cases z)
  | succ n ih => intro x1 x2 x3 x4 x5 H locs ls hf w hl; exact t_M_strong_31b C  ih hf w hl
set_option maxHeartbeats 4000000 in
set_option maxRecDepth 20000 in
theorem c_M_strong {l : Launch} {g : GX} {q : Nat → Nat} {x1 : Int32}  {σ : St} {r : Int32} (hf : f_M_strong  x1 σ = some r) : KK l y_M_strong prog_13_method_91_code 6 (some .int) 4 g (wM g q) σ [.ref (q 0), .int x1] (some (.int r)) (wM g q) σ := by
  refine KK_of (plainFor_of_name (by decide)) (Nat.le_of_ble_eq_true rfl) (fun p e s m below meth c A ls C w hl => ?_)
  have hl : lv_has ls 6 [(0, .ref (q 0)), (1, .int x1)] := hl
  obtain ⟨hx, hb, hml, hown, hts, hK, hA, hZ, hlocks, hr, hN⟩ := id C
  unfold f_M_strong at hf
  refine lv_aload_n hx hb d_M_strong_0 rfl (lv_at hl 0 rfl) ?_
  refine mg_0_seenMany C w k1171 d_M_strong_1 ?_
  refine lv_if_eq (tgt := 19) hx hb d_M_strong_4 (by decide) (fun cd => ?_) (fun cd => ?_)
  · have hf := it_e cd hf
    refine lv_iconst (v := (-1)) hx hb d_M_strong_19 (by decide) ?_
    cases some_e hf
    exact k_iret C w d_M_strong_20
  · have hf := if_e cd hf
    refine lv_iload_n hx hb d_M_strong_7 rfl (lv_at hl 1 rfl) ?_
    refine lv_i2l hx hb d_M_strong_8 rfl ?_
    refine lv_lconst (v := 0) hx hb d_M_strong_9 (by decide) ?_
    refine lv_ldc2 (v := 2) hx hb hown (hts _ k1715) d_M_strong_10 ?_
    obtain ⟨r_2, h_1, hf⟩ := bp_e hf
    refine k_callS (As := [.long (x1).toInt64, .long 0, .long 2]) (rest := []) C w (c_M_isIn (q := q) h_1) cv_M_isIn k1410 (by decide) hl.1 rfl (Nat.le_of_ble_eq_true rfl) d_M_strong_13 (fun H locs w => ?_)
    show WK p l e s m _ below meth c 4 g (wM g q) A (some (.int r)) σ H locs (F0 m 16 ls [.int r_2])
    refine lv_if_ne (tgt := 21) hx hb d_M_strong_16 (by decide) (fun cd => ?_) (fun cd => ?_)
    · have hf := if_e cd hf
      refine lv_iconst (v := 0) hx hb d_M_strong_21 (by decide) ?_
      refine lv_istore_n (lv' := [(2, .int 0), (0, .ref (q 0)), (1, .int x1)]) hx hb d_M_strong_22 rfl hl (by decide) rfl (fun ls hl => ?_)
      refine lv_iconst (v := (-1)) hx hb d_M_strong_23 (by decide) ?_
      refine lv_istore_n (lv' := [(3, .int (-1)), (2, .int 0), (0, .ref (q 0)), (1, .int x1)]) hx hb d_M_strong_24 rfl hl (by decide) rfl (fun ls hl => ?_)
      refine lv_iconst (v := (-1)) hx hb d_M_strong_25 (by decide) ?_
      refine lv_istore (lv' := [(4, .int (-1)), (3, .int (-1)), (2, .int 0), (0, .ref (q 0)), (1, .int x1)]) hx hb d_M_strong_26 hl (by decide) rfl (fun ls hl => ?_)
      refine lv_iconst (v := 1) hx hb d_M_strong_28 (by decide) ?_
      refine lv_istore (lv' := [(5, .int 1), (4, .int (-1)), (3, .int (-1)), (2, .int 0), (0, .ref (q 0)), (1, .int x1)]) hx hb d_M_strong_29 hl (by decide) rfl (fun ls hl => ?_)
      exact t_M_strong_31 C  FU x1 0 (-1) (-1) 1  _ _ _ hf w (lv_sub hl [4, 5, 3, 2, 1, 0] rfl)
    · have hf := it_e cd hf
      refine lv_iconst (v := (-1)) hx hb d_M_strong_19 (by decide) ?_
      cases some_e hf
      exact k_iret C w d_M_strong_20
def f_M_next_52b (k52 : Int32 → Int32 → Int32 → Int32 → St → Option (Int32)) (x1 : Int32) (x2 : Int32) (x3 : Int32) (x4 : Int32) (σ : St) : Option (Int32) :=
  bp (f_M_trierOf (sI σ 29) 1 σ) fun r_2 =>
  if r_2 < x4 then
    bp (f_M_trierOf (sI σ 29) 1 σ) fun r_4 =>
    gd (nz (r_4 + 1)) <|
    some ((1000 * x3) / (r_4 + 1))
  else
    bp (f_M_heightBy x2 x4 x1 σ) fun r_7 =>
    if r_7 < (sA σ 11 (3 : Int32).toNatClampNeg) then
      lt ((x4 + 1)) fun x_8 =>
      k52 x1 x2 x3 x_8 σ
    else
      lt ((x3 + 1)) fun x_9 =>
      lt ((x4 + 1)) fun x_10 =>
      k52 x1 x2 x_9 x_10 σ
def f_M_next_52 : Nat → Int32 → Int32 → Int32 → Int32 → St → Option (Int32)
  | 0 => fun _ _ _ _ _ => none
  | n + 1 => f_M_next_52b   (f_M_next_52   n)
def f_M_next (x1 : Int32) (σ : St) : Option (Int32) :=
  if (sI σ 28) = 0 then
    some (-1)
  else
    bp (f_M_toldOf 2 σ) fun r_2 =>
    if (sI σ 28) < r_2 then
      bp (f_M_trierOf (sI σ 29) 0 σ) fun r_4 =>
      bp (f_M_trierOf (sI σ 29) 2 σ) fun r_6 =>
      bp (f_M_tiredBy r_4 r_6 (sI σ 28) σ) fun r_8 =>
      f_M_next_52 FU x1 r_8 0 0 σ
    else
      some (-1)
set_option maxHeartbeats 4000000 in
set_option maxRecDepth 20000 in
theorem t_M_next_52b {r : Int32} {σ : St} (C : Cx g A p s m av meth c prog_13_method_92_code 5 "BellHammerModel" (some .int)) {k52 : Int32 → Int32 → Int32 → Int32 → St → Option (Int32)} (hk52 : ∀ (x1 : Int32) (x2 : Int32) (x3 : Int32) (x4 : Int32) (H : Heap) (locs : List Loc) (ls : Array Slot), k52 x1 x2 x3 x4 σ = some r → Wd g (wM g q) A s σ H locs → lv_has ls 5 [(0, .ref (q 0)), (1, .int x1), (2, .int x2), (3, .int x3), (4, .int x4)] → WK p l e s m av below meth c 2 g (wM g q) A (some (.int r)) σ H locs (F0 m 52 ls []))  {x1 : Int32} {x2 : Int32} {x3 : Int32} {x4 : Int32} {H : Heap} {locs : List Loc} {ls : Array Slot} (hf : f_M_next_52b  k52 x1 x2 x3 x4 σ = some r) (w : Wd g (wM g q) A s σ H locs) (hl : lv_has ls 5 [(0, .ref (q 0)), (1, .int x1), (2, .int x2), (3, .int x3), (4, .int x4)]) : WK p l e s m av below meth c 2 g (wM g q) A (some (.int r)) σ H locs (F0 m 52 ls []) := by
  obtain ⟨hx, hb, hml, hown, hts, hK, hA, hZ, hlocks, hr, hN⟩ := id C
  unfold f_M_next_52b at hf
  refine lv_iload hx hb d_M_next_52 (lv_at hl 4 rfl) ?_
  refine lv_aload_n hx hb d_M_next_54 rfl (lv_at hl 0 rfl) ?_
  refine lv_aload_n hx hb d_M_next_55 rfl (lv_at hl 0 rfl) ?_
  refine mg_0_seenTrier C w k1172 d_M_next_56 ?_
  refine lv_iconst (v := 1) hx hb d_M_next_59 (by decide) ?_
  obtain ⟨r_2, h_1, hf⟩ := bp_e hf
  refine k_callV (As := [.int (sI σ 29), .int 1]) (rest := [.int x4]) C w (c_M_trierOf (q := q) h_1) cv_M_trierOf k1534 (mr_0 C w) (by decide) hl.1 rfl (Nat.le_of_ble_eq_true rfl) d_M_next_60 (fun H locs w => ?_)
  show WK p l e s m av below meth c 2 g (wM g q) A (some (.int r)) σ H locs (F0 m 63 ls [.int r_2, .int x4])
  refine lv_icmp_gt (tgt := 92) hx hb d_M_next_63 (by decide) (fun cd => ?_) (fun cd => ?_)
  · have hf := it_e cd hf
    refine lv_sipush (v := 1000) hx hb d_M_next_92 (by decide) ?_
    refine lv_iload_n hx hb d_M_next_95 rfl (lv_at hl 3 rfl) ?_
    refine lv_imul hx hb d_M_next_96 ?_
    refine lv_aload_n hx hb d_M_next_97 rfl (lv_at hl 0 rfl) ?_
    refine lv_aload_n hx hb d_M_next_98 rfl (lv_at hl 0 rfl) ?_
    refine mg_0_seenTrier C w k1172 d_M_next_99 ?_
    refine lv_iconst (v := 1) hx hb d_M_next_102 (by decide) ?_
    obtain ⟨r_4, h_3, hf⟩ := bp_e hf
    refine k_callV (As := [.int (sI σ 29), .int 1]) (rest := [.int (1000 * x3)]) C w (c_M_trierOf (q := q) h_3) cv_M_trierOf k1534 (mr_0 C w) (by decide) hl.1 rfl (Nat.le_of_ble_eq_true rfl) d_M_next_103 (fun H locs w => ?_)
    show WK p l e s m av below meth c 2 g (wM g q) A (some (.int r)) σ H locs (F0 m 106 ls [.int r_4, .int (1000 * x3)])
    refine lv_iconst (v := 1) hx hb d_M_next_106 (by decide) ?_
    refine lv_iadd hx hb d_M_next_107 ?_
    obtain ⟨g_5, hf⟩ := gd_e hf
    refine lv_idiv hx hb d_M_next_108 (nz_e g_5) ?_
    cases some_e hf
    exact k_iret C w d_M_next_109
  · have hf := if_e cd hf
    refine lv_aload_n hx hb d_M_next_66 rfl (lv_at hl 0 rfl) ?_
    refine lv_iload_n hx hb d_M_next_67 rfl (lv_at hl 2 rfl) ?_
    refine lv_iload hx hb d_M_next_68 (lv_at hl 4 rfl) ?_
    refine lv_iload_n hx hb d_M_next_70 rfl (lv_at hl 1 rfl) ?_
    obtain ⟨r_7, h_6, hf⟩ := bp_e hf
    refine k_callV (As := [.int x2, .int x4, .int x1]) (rest := []) C w (c_M_heightBy (q := q) h_6) cv_M_heightBy k1556 (mr_0 C w) (by decide) hl.1 rfl (Nat.le_of_ble_eq_true rfl) d_M_next_71 (fun H locs w => ?_)
    show WK p l e s m av below meth c 2 g (wM g q) A (some (.int r)) σ H locs (F0 m 74 ls [.int r_7])
    refine lv_aload_n hx hb d_M_next_74 rfl (lv_at hl 0 rfl) ?_
    refine mg_0_now C w k1149 d_M_next_75 ?_
    refine lv_iconst (v := 3) hx hb d_M_next_78 (by decide) ?_
    refine ml_41 C w (by decide) d_M_next_79 ?_
    refine lv_icmp_lt (tgt := 86) hx hb d_M_next_80 (by decide) (fun cd => ?_) (fun cd => ?_)
    · have hf := it_e cd hf
      obtain ⟨x_8, ex_8⟩ : ∃ y : Int32, y = (x4 + 1) := ⟨_, rfl⟩
      have hf := lt_e ex_8 hf
      refine lv_iinc (v := x_8) (lv' := [(4, .int x_8), (0, .ref (q 0)), (1, .int x1), (2, .int x2), (3, .int x3)]) hx hb d_M_next_86 hl (k := 4) rfl (by rw [ex_8]; rfl) (by decide) rfl (fun ls hl => ?_)
      refine lv_goto (tgt := 52) hx hb d_M_next_89 (by decide) ?_
      exact hk52 x1 x2 x3 x_8  _ _ _ hf w (lv_sub hl [1, 2, 3, 4, 0] rfl)
    · have hf := if_e cd hf
      obtain ⟨x_9, ex_9⟩ : ∃ y : Int32, y = (x3 + 1) := ⟨_, rfl⟩
      have hf := lt_e ex_9 hf
      refine lv_iinc (v := x_9) (lv' := [(3, .int x_9), (0, .ref (q 0)), (1, .int x1), (2, .int x2), (4, .int x4)]) hx hb d_M_next_83 hl (k := 3) rfl (by rw [ex_9]; rfl) (by decide) rfl (fun ls hl => ?_)
      obtain ⟨x_10, ex_10⟩ : ∃ y : Int32, y = (x4 + 1) := ⟨_, rfl⟩
      have hf := lt_e ex_10 hf
      refine lv_iinc (v := x_10) (lv' := [(4, .int x_10), (3, .int x_9), (0, .ref (q 0)), (1, .int x1), (2, .int x2)]) hx hb d_M_next_86 hl (k := 4) rfl (by rw [ex_10]; rfl) (by decide) rfl (fun ls hl => ?_)
      refine lv_goto (tgt := 52) hx hb d_M_next_89 (by decide) ?_
      exact hk52 x1 x2 x_9 x_10  _ _ _ hf w (lv_sub hl [2, 3, 4, 1, 0] rfl)
set_option maxHeartbeats 4000000 in
set_option maxRecDepth 20000 in
theorem t_M_next_52 {r : Int32} {σ : St} (C : Cx g A p s m av meth c prog_13_method_92_code 5 "BellHammerModel" (some .int))  : ∀ (n : Nat) (x1 : Int32) (x2 : Int32) (x3 : Int32) (x4 : Int32) (H : Heap) (locs : List Loc) (ls : Array Slot), f_M_next_52   n x1 x2 x3 x4 σ = some r → Wd g (wM g q) A s σ H locs → lv_has ls 5 [(0, .ref (q 0)), (1, .int x1), (2, .int x2), (3, .int x3), (4, .int x4)] → WK p l e s m av below meth c 2 g (wM g q) A (some (.int r)) σ H locs (F0 m 52 ls []) := by
  intro n
  induction n with
  | zero => intro x1 x2 x3 x4 H locs ls hf; exact absurd hf (by intro z; cases z)
  | succ n ih => intro x1 x2 x3 x4 H locs ls hf w hl; exact t_M_next_52b C  ih hf w hl
set_option maxHeartbeats 4000000 in
set_option maxRecDepth 20000 in
theorem c_M_next {l : Launch} {g : GX} {q : Nat → Nat} {x1 : Int32}  {σ : St} {r : Int32} (hf : f_M_next  x1 σ = some r) : KK l y_M_next prog_13_method_92_code 5 (some .int) 2 g (wM g q) σ [.ref (q 0), .int x1] (some (.int r)) (wM g q) σ := by
  refine KK_of (plainFor_of_name (by decide)) (Nat.le_of_ble_eq_true rfl) (fun p e s m below meth c A ls C w hl => ?_)
  have hl : lv_has ls 5 [(0, .ref (q 0)), (1, .int x1)] := hl
  obtain ⟨hx, hb, hml, hown, hts, hK, hA, hZ, hlocks, hr, hN⟩ := id C
  unfold f_M_next at hf
  refine lv_aload_n hx hb d_M_next_0 rfl (lv_at hl 0 rfl) ?_
  refine mg_0_seenMany C w k1171 d_M_next_1 ?_
  refine lv_if_eq (tgt := 19) hx hb d_M_next_4 (by decide) (fun cd => ?_) (fun cd => ?_)
  · have hf := it_e cd hf
    refine lv_iconst (v := (-1)) hx hb d_M_next_19 (by decide) ?_
    cases some_e hf
    exact k_iret C w d_M_next_20
  · have hf := if_e cd hf
    refine lv_aload_n hx hb d_M_next_7 rfl (lv_at hl 0 rfl) ?_
    refine mg_0_seenMany C w k1171 d_M_next_8 ?_
    refine lv_aload_n hx hb d_M_next_11 rfl (lv_at hl 0 rfl) ?_
    refine lv_iconst (v := 2) hx hb d_M_next_12 (by decide) ?_
    obtain ⟨r_2, h_1, hf⟩ := bp_e hf
    refine k_callV (As := [.int 2]) (rest := [.int (sI σ 28)]) C w (c_M_toldOf (q := q) h_1) cv_M_toldOf k1517 (mr_0 C w) (by decide) hl.1 rfl (Nat.le_of_ble_eq_true rfl) d_M_next_13 (fun H locs w => ?_)
    show WK p l e s m _ below meth c 2 g (wM g q) A (some (.int r)) σ H locs (F0 m 16 ls [.int r_2, .int (sI σ 28)])
    refine lv_icmp_lt (tgt := 21) hx hb d_M_next_16 (by decide) (fun cd => ?_) (fun cd => ?_)
    · have hf := it_e cd hf
      refine lv_aload_n hx hb d_M_next_21 rfl (lv_at hl 0 rfl) ?_
      refine lv_aload_n hx hb d_M_next_22 rfl (lv_at hl 0 rfl) ?_
      refine mg_0_seenTrier C w k1172 d_M_next_23 ?_
      refine lv_iconst (v := 0) hx hb d_M_next_26 (by decide) ?_
      obtain ⟨r_4, h_3, hf⟩ := bp_e hf
      refine k_callV (As := [.int (sI σ 29), .int 0]) (rest := []) C w (c_M_trierOf (q := q) h_3) cv_M_trierOf k1534 (mr_0 C w) (by decide) hl.1 rfl (Nat.le_of_ble_eq_true rfl) d_M_next_27 (fun H locs w => ?_)
      show WK p l e s m _ below meth c 2 g (wM g q) A (some (.int r)) σ H locs (F0 m 30 ls [.int r_4])
      refine lv_aload_n hx hb d_M_next_30 rfl (lv_at hl 0 rfl) ?_
      refine lv_aload_n hx hb d_M_next_31 rfl (lv_at hl 0 rfl) ?_
      refine mg_0_seenTrier C w k1172 d_M_next_32 ?_
      refine lv_iconst (v := 2) hx hb d_M_next_35 (by decide) ?_
      obtain ⟨r_6, h_5, hf⟩ := bp_e hf
      refine k_callV (As := [.int (sI σ 29), .int 2]) (rest := [.int r_4]) C w (c_M_trierOf (q := q) h_5) cv_M_trierOf k1534 (mr_0 C w) (by decide) hl.1 rfl (Nat.le_of_ble_eq_true rfl) d_M_next_36 (fun H locs w => ?_)
      show WK p l e s m _ below meth c 2 g (wM g q) A (some (.int r)) σ H locs (F0 m 39 ls [.int r_6, .int r_4])
      refine lv_aload_n hx hb d_M_next_39 rfl (lv_at hl 0 rfl) ?_
      refine mg_0_seenMany C w k1171 d_M_next_40 ?_
      obtain ⟨r_8, h_7, hf⟩ := bp_e hf
      refine k_callS (As := [.int r_4, .int r_6, .int (sI σ 28)]) (rest := []) C w (c_M_tiredBy (q := q) h_7) cv_M_tiredBy k1553 (by decide) hl.1 rfl (Nat.le_of_ble_eq_true rfl) d_M_next_43 (fun H locs w => ?_)
      show WK p l e s m _ below meth c 2 g (wM g q) A (some (.int r)) σ H locs (F0 m 46 ls [.int r_8])
      refine lv_istore_n (lv' := [(2, .int r_8), (0, .ref (q 0)), (1, .int x1)]) hx hb d_M_next_46 rfl hl (by decide) rfl (fun ls hl => ?_)
      refine lv_iconst (v := 0) hx hb d_M_next_47 (by decide) ?_
      refine lv_istore_n (lv' := [(3, .int 0), (2, .int r_8), (0, .ref (q 0)), (1, .int x1)]) hx hb d_M_next_48 rfl hl (by decide) rfl (fun ls hl => ?_)
      refine lv_iconst (v := 0) hx hb d_M_next_49 (by decide) ?_
      refine lv_istore (lv' := [(4, .int 0), (3, .int 0), (2, .int r_8), (0, .ref (q 0)), (1, .int x1)]) hx hb d_M_next_50 hl (by decide) rfl (fun ls hl => ?_)
      exact t_M_next_52 C  FU x1 r_8 0 0  _ _ _ hf w (lv_sub hl [3, 4, 2, 1, 0] rfl)
    · have hf := if_e cd hf
      refine lv_iconst (v := (-1)) hx hb d_M_next_19 (by decide) ?_
      cases some_e hf
      exact k_iret C w d_M_next_20
def f_M_isClear_10b (k2 : Int32 → Int32 → Int32 → St → Option (Int32)) (k10 : Int32 → Int32 → Int32 → Int32 → St → Option (Int32)) (x1 : Int32) (x2 : Int32) (x3 : Int32) (x4 : Int32) (σ : St) : Option (Int32) :=
  if x2 < x4 then
    lt ((x3 + 1)) fun x_1 =>
    k2 x1 x2 x_1 σ
  else
    bp (f_M_high x1 0 x3 0 σ) fun r_3 =>
    bp (f_M_high x1 0 x4 1 σ) fun r_5 =>
    if r_3 = r_5 then
      some 0
    else
      lt ((x4 + 1)) fun x_6 =>
      k10 x1 x2 x3 x_6 σ
def f_M_isClear_10 (k2 : Int32 → Int32 → Int32 → St → Option (Int32)) : Nat → Int32 → Int32 → Int32 → Int32 → St → Option (Int32)
  | 0 => fun _ _ _ _ _ => none
  | n + 1 => f_M_isClear_10b  k2 (f_M_isClear_10  k2 n)
def f_M_isClear_2b (k2 : Int32 → Int32 → Int32 → St → Option (Int32)) (x1 : Int32) (x2 : Int32) (x3 : Int32) (σ : St) : Option (Int32) :=
  if x2 < x3 then
    some 1
  else
    f_M_isClear_10 k2 FU x1 x2 x3 0 σ
def f_M_isClear_2 : Nat → Int32 → Int32 → Int32 → St → Option (Int32)
  | 0 => fun _ _ _ _ => none
  | n + 1 => f_M_isClear_2b   (f_M_isClear_2   n)
def f_M_isClear (x1 : Int32) (x2 : Int32) (σ : St) : Option (Int32) :=
  f_M_isClear_2 FU x1 x2 0 σ
set_option maxHeartbeats 4000000 in
set_option maxRecDepth 20000 in
theorem t_M_isClear_10b {r : Int32} {σ : St} (C : Cx g A p s m av meth c prog_13_method_93_code 5 "BellHammerModel" (some .boolean)) {k2 : Int32 → Int32 → Int32 → St → Option (Int32)} (hk2 : ∀ (x1 : Int32) (x2 : Int32) (x3 : Int32) (H : Heap) (locs : List Loc) (ls : Array Slot), k2 x1 x2 x3 σ = some r → Wd g (wM g q) A s σ H locs → lv_has ls 5 [(0, .ref (q 0)), (1, .int x1), (2, .int x2), (3, .int x3)] → WK p l e s m av below meth c 3 g (wM g q) A (some (.int r)) σ H locs (F0 m 2 ls [])) {k10 : Int32 → Int32 → Int32 → Int32 → St → Option (Int32)} (hk10 : ∀ (x1 : Int32) (x2 : Int32) (x3 : Int32) (x4 : Int32) (H : Heap) (locs : List Loc) (ls : Array Slot), k10 x1 x2 x3 x4 σ = some r → Wd g (wM g q) A s σ H locs → lv_has ls 5 [(0, .ref (q 0)), (1, .int x1), (2, .int x2), (3, .int x3), (4, .int x4)] → WK p l e s m av below meth c 3 g (wM g q) A (some (.int r)) σ H locs (F0 m 10 ls []))  {x1 : Int32} {x2 : Int32} {x3 : Int32} {x4 : Int32} {H : Heap} {locs : List Loc} {ls : Array Slot} (hf : f_M_isClear_10b  k2 k10 x1 x2 x3 x4 σ = some r) (w : Wd g (wM g q) A s σ H locs) (hl : lv_has ls 5 [(0, .ref (q 0)), (1, .int x1), (2, .int x2), (3, .int x3), (4, .int x4)]) : WK p l e s m av below meth c 3 g (wM g q) A (some (.int r)) σ H locs (F0 m 10 ls []) := by
  obtain ⟨hx, hb, hml, hown, hts, hK, hA, hZ, hlocks, hr, hN⟩ := id C
  unfold f_M_isClear_10b at hf
  refine lv_iload hx hb d_M_isClear_10 (lv_at hl 4 rfl) ?_
  refine lv_iload_n hx hb d_M_isClear_12 rfl (lv_at hl 2 rfl) ?_
  refine lv_icmp_gt (tgt := 44) hx hb d_M_isClear_13 (by decide) (fun cd => ?_) (fun cd => ?_)
  · have hf := it_e cd hf
    obtain ⟨x_1, ex_1⟩ : ∃ y : Int32, y = (x3 + 1) := ⟨_, rfl⟩
    have hf := lt_e ex_1 hf
    refine lv_iinc (v := x_1) (lv' := [(3, .int x_1), (0, .ref (q 0)), (1, .int x1), (2, .int x2), (4, .int x4)]) hx hb d_M_isClear_44 hl (k := 3) rfl (by rw [ex_1]; rfl) (by decide) rfl (fun ls hl => ?_)
    refine lv_goto (tgt := 2) hx hb d_M_isClear_47 (by decide) ?_
    exact hk2 x1 x2 x_1  _ _ _ hf w (lv_sub hl [1, 2, 3, 0] rfl)
  · have hf := if_e cd hf
    refine lv_aload_n hx hb d_M_isClear_16 rfl (lv_at hl 0 rfl) ?_
    refine lv_iload_n hx hb d_M_isClear_17 rfl (lv_at hl 1 rfl) ?_
    refine lv_iconst (v := 0) hx hb d_M_isClear_18 (by decide) ?_
    refine lv_iload_n hx hb d_M_isClear_19 rfl (lv_at hl 3 rfl) ?_
    refine lv_iconst (v := 0) hx hb d_M_isClear_20 (by decide) ?_
    obtain ⟨r_3, h_2, hf⟩ := bp_e hf
    refine k_callV (As := [.int x1, .int 0, .int x3, .int 0]) (rest := []) C w (c_M_high (q := q) h_2) cv_M_high k1728 (mr_0 C w) (by decide) hl.1 rfl (Nat.le_of_ble_eq_true rfl) d_M_isClear_21 (fun H locs w => ?_)
    show WK p l e s m av below meth c 3 g (wM g q) A (some (.int r)) σ H locs (F0 m 24 ls [.int r_3])
    refine lv_aload_n hx hb d_M_isClear_24 rfl (lv_at hl 0 rfl) ?_
    refine lv_iload_n hx hb d_M_isClear_25 rfl (lv_at hl 1 rfl) ?_
    refine lv_iconst (v := 0) hx hb d_M_isClear_26 (by decide) ?_
    refine lv_iload hx hb d_M_isClear_27 (lv_at hl 4 rfl) ?_
    refine lv_iconst (v := 1) hx hb d_M_isClear_29 (by decide) ?_
    obtain ⟨r_5, h_4, hf⟩ := bp_e hf
    refine k_callV (As := [.int x1, .int 0, .int x4, .int 1]) (rest := [.int r_3]) C w (c_M_high (q := q) h_4) cv_M_high k1728 (mr_0 C w) (by decide) hl.1 rfl (Nat.le_of_ble_eq_true rfl) d_M_isClear_30 (fun H locs w => ?_)
    show WK p l e s m av below meth c 3 g (wM g q) A (some (.int r)) σ H locs (F0 m 33 ls [.int r_5, .int r_3])
    refine lv_icmp_ne (tgt := 38) hx hb d_M_isClear_33 (by decide) (fun cd => ?_) (fun cd => ?_)
    · have hf := if_e cd hf
      obtain ⟨x_6, ex_6⟩ : ∃ y : Int32, y = (x4 + 1) := ⟨_, rfl⟩
      have hf := lt_e ex_6 hf
      refine lv_iinc (v := x_6) (lv' := [(4, .int x_6), (0, .ref (q 0)), (1, .int x1), (2, .int x2), (3, .int x3)]) hx hb d_M_isClear_38 hl (k := 4) rfl (by rw [ex_6]; rfl) (by decide) rfl (fun ls hl => ?_)
      refine lv_goto (tgt := 10) hx hb d_M_isClear_41 (by decide) ?_
      exact hk10 x1 x2 x3 x_6  _ _ _ hf w (lv_sub hl [1, 2, 3, 4, 0] rfl)
    · have hf := it_e cd hf
      refine lv_iconst (v := 0) hx hb d_M_isClear_36 (by decide) ?_
      cases some_e hf
      exact k_zret C w (by decide) d_M_isClear_37
set_option maxHeartbeats 4000000 in
set_option maxRecDepth 20000 in
theorem t_M_isClear_10 {r : Int32} {σ : St} (C : Cx g A p s m av meth c prog_13_method_93_code 5 "BellHammerModel" (some .boolean)) {k2 : Int32 → Int32 → Int32 → St → Option (Int32)} (hk2 : ∀ (x1 : Int32) (x2 : Int32) (x3 : Int32) (H : Heap) (locs : List Loc) (ls : Array Slot), k2 x1 x2 x3 σ = some r → Wd g (wM g q) A s σ H locs → lv_has ls 5 [(0, .ref (q 0)), (1, .int x1), (2, .int x2), (3, .int x3)] → WK p l e s m av below meth c 3 g (wM g q) A (some (.int r)) σ H locs (F0 m 2 ls []))  : ∀ (n : Nat) (x1 : Int32) (x2 : Int32) (x3 : Int32) (x4 : Int32) (H : Heap) (locs : List Loc) (ls : Array Slot), f_M_isClear_10  k2 n x1 x2 x3 x4 σ = some r → Wd g (wM g q) A s σ H locs → lv_has ls 5 [(0, .ref (q 0)), (1, .int x1), (2, .int x2), (3, .int x3), (4, .int x4)] → WK p l e s m av below meth c 3 g (wM g q) A (some (.int r)) σ H locs (F0 m 10 ls []) := by
  intro n
  induction n with
  | zero => intro x1 x2 x3 x4 H locs ls hf; exact absurd hf (by intro z; cases z)
  | succ n ih => intro x1 x2 x3 x4 H locs ls hf w hl; exact t_M_isClear_10b C hk2 ih hf w hl
set_option maxHeartbeats 4000000 in
set_option maxRecDepth 20000 in
theorem t_M_isClear_2b {r : Int32} {σ : St} (C : Cx g A p s m av meth c prog_13_method_93_code 5 "BellHammerModel" (some .boolean)) {k2 : Int32 → Int32 → Int32 → St → Option (Int32)} (hk2 : ∀ (x1 : Int32) (x2 : Int32) (x3 : Int32) (H : Heap) (locs : List Loc) (ls : Array Slot), k2 x1 x2 x3 σ = some r → Wd g (wM g q) A s σ H locs → lv_has ls 5 [(0, .ref (q 0)), (1, .int x1), (2, .int x2), (3, .int x3)] → WK p l e s m av below meth c 3 g (wM g q) A (some (.int r)) σ H locs (F0 m 2 ls []))  {x1 : Int32} {x2 : Int32} {x3 : Int32} {H : Heap} {locs : List Loc} {ls : Array Slot} (hf : f_M_isClear_2b  k2 x1 x2 x3 σ = some r) (w : Wd g (wM g q) A s σ H locs) (hl : lv_has ls 5 [(0, .ref (q 0)), (1, .int x1), (2, .int x2), (3, .int x3)]) : WK p l e s m av below meth c 3 g (wM g q) A (some (.int r)) σ H locs (F0 m 2 ls []) := by
  obtain ⟨hx, hb, hml, hown, hts, hK, hA, hZ, hlocks, hr, hN⟩ := id C
  unfold f_M_isClear_2b at hf
  refine lv_iload_n hx hb d_M_isClear_2 rfl (lv_at hl 3 rfl) ?_
  refine lv_iload_n hx hb d_M_isClear_3 rfl (lv_at hl 2 rfl) ?_
  refine lv_icmp_gt (tgt := 50) hx hb d_M_isClear_4 (by decide) (fun cd => ?_) (fun cd => ?_)
  · have hf := it_e cd hf
    refine lv_iconst (v := 1) hx hb d_M_isClear_50 (by decide) ?_
    cases some_e hf
    exact k_zret C w (by decide) d_M_isClear_51
  · have hf := if_e cd hf
    refine lv_iconst (v := 0) hx hb d_M_isClear_7 (by decide) ?_
    refine lv_istore (lv' := [(4, .int 0), (0, .ref (q 0)), (1, .int x1), (2, .int x2), (3, .int x3)]) hx hb d_M_isClear_8 hl (by decide) rfl (fun ls hl => ?_)
    exact t_M_isClear_10 C hk2 FU x1 x2 x3 0  _ _ _ hf w (lv_sub hl [1, 2, 3, 4, 0] rfl)
set_option maxHeartbeats 4000000 in
set_option maxRecDepth 20000 in
theorem t_M_isClear_2 {r : Int32} {σ : St} (C : Cx g A p s m av meth c prog_13_method_93_code 5 "BellHammerModel" (some .boolean))  : ∀ (n : Nat) (x1 : Int32) (x2 : Int32) (x3 : Int32) (H : Heap) (locs : List Loc) (ls : Array Slot), f_M_isClear_2   n x1 x2 x3 σ = some r → Wd g (wM g q) A s σ H locs → lv_has ls 5 [(0, .ref (q 0)), (1, .int x1), (2, .int x2), (3, .int x3)] → WK p l e s m av below meth c 3 g (wM g q) A (some (.int r)) σ H locs (F0 m 2 ls []) := by
  intro n
  induction n with
  | zero => intro x1 x2 x3 H locs ls hf; exact absurd hf (by intro z; cases z)
  | succ n ih => intro x1 x2 x3 H locs ls hf w hl; exact t_M_isClear_2b C  ih hf w hl
set_option maxHeartbeats 4000000 in
set_option maxRecDepth 20000 in
theorem c_M_isClear {l : Launch} {g : GX} {q : Nat → Nat} {x1 : Int32} {x2 : Int32}  {σ : St} {r : Int32} (hf : f_M_isClear  x1 x2 σ = some r) : KK l y_M_isClear prog_13_method_93_code 5 (some .boolean) 3 g (wM g q) σ [.ref (q 0), .int x1, .int x2] (some (.int r)) (wM g q) σ := by
  refine KK_of (plainFor_of_name (by decide)) (Nat.le_of_ble_eq_true rfl) (fun p e s m below meth c A ls C w hl => ?_)
  have hl : lv_has ls 5 [(0, .ref (q 0)), (1, .int x1), (2, .int x2)] := hl
  obtain ⟨hx, hb, hml, hown, hts, hK, hA, hZ, hlocks, hr, hN⟩ := id C
  unfold f_M_isClear at hf
  refine lv_iconst (v := 0) hx hb d_M_isClear_0 (by decide) ?_
  refine lv_istore_n (lv' := [(3, .int 0), (0, .ref (q 0)), (1, .int x1), (2, .int x2)]) hx hb d_M_isClear_1 rfl hl (by decide) rfl (fun ls hl => ?_)
  exact t_M_isClear_2 C  FU x1 x2 0  _ _ _ hf w (lv_sub hl [1, 2, 3, 0] rfl)
def f_M_clear_12b (k12 : Int32 → Int32 → St → Option (Int32)) (x1 : Int32) (x2 : Int32) (σ : St) : Option (Int32) :=
  if 9 ≤ x2 then
    some x2
  else
    bp (f_M_isClear x1 (x2 + 1) σ) fun r_2 =>
    if r_2 = 0 then
      some x2
    else
      lt ((x2 + 1)) fun x_3 =>
      k12 x1 x_3 σ
def f_M_clear_12 : Nat → Int32 → Int32 → St → Option (Int32)
  | 0 => fun _ _ _ => none
  | n + 1 => f_M_clear_12b   (f_M_clear_12   n)
def f_M_clear (x1 : Int32) (σ : St) : Option (Int32) :=
  bp (f_M_isTrier x1 σ) fun r_2 =>
  if r_2 = 0 then
    some (-1)
  else
    f_M_clear_12 FU x1 (-1) σ
set_option maxHeartbeats 4000000 in
set_option maxRecDepth 20000 in
theorem t_M_clear_12b {r : Int32} {σ : St} (C : Cx g A p s m av meth c prog_13_method_94_code 3 "BellHammerModel" (some .int)) {k12 : Int32 → Int32 → St → Option (Int32)} (hk12 : ∀ (x1 : Int32) (x2 : Int32) (H : Heap) (locs : List Loc) (ls : Array Slot), k12 x1 x2 σ = some r → Wd g (wM g q) A s σ H locs → lv_has ls 3 [(0, .ref (q 0)), (1, .int x1), (2, .int x2)] → WK p l e s m av below meth c 4 g (wM g q) A (some (.int r)) σ H locs (F0 m 12 ls []))  {x1 : Int32} {x2 : Int32} {H : Heap} {locs : List Loc} {ls : Array Slot} (hf : f_M_clear_12b  k12 x1 x2 σ = some r) (w : Wd g (wM g q) A s σ H locs) (hl : lv_has ls 3 [(0, .ref (q 0)), (1, .int x1), (2, .int x2)]) : WK p l e s m av below meth c 4 g (wM g q) A (some (.int r)) σ H locs (F0 m 12 ls []) := by
  obtain ⟨hx, hb, hml, hown, hts, hK, hA, hZ, hlocks, hr, hN⟩ := id C
  unfold f_M_clear_12b at hf
  refine lv_iload_n hx hb d_M_clear_12 rfl (lv_at hl 2 rfl) ?_
  refine lv_bipush (v := 9) hx hb d_M_clear_13 (by decide) ?_
  refine lv_icmp_ge (tgt := 35) hx hb d_M_clear_15 (by decide) (fun cd => ?_) (fun cd => ?_)
  · have hf := it_e cd hf
    refine lv_iload_n hx hb d_M_clear_35 rfl (lv_at hl 2 rfl) ?_
    cases some_e hf
    exact k_iret C w d_M_clear_36
  · have hf := if_e cd hf
    refine lv_aload_n hx hb d_M_clear_18 rfl (lv_at hl 0 rfl) ?_
    refine lv_iload_n hx hb d_M_clear_19 rfl (lv_at hl 1 rfl) ?_
    refine lv_iload_n hx hb d_M_clear_20 rfl (lv_at hl 2 rfl) ?_
    refine lv_iconst (v := 1) hx hb d_M_clear_21 (by decide) ?_
    refine lv_iadd hx hb d_M_clear_22 ?_
    obtain ⟨r_2, h_1, hf⟩ := bp_e hf
    refine k_callV (As := [.int x1, .int (x2 + 1)]) (rest := []) C w (c_M_isClear (q := q) h_1) cv_M_isClear k1724 (mr_0 C w) (by decide) hl.1 rfl (Nat.le_of_ble_eq_true rfl) d_M_clear_23 (fun H locs w => ?_)
    show WK p l e s m av below meth c 4 g (wM g q) A (some (.int r)) σ H locs (F0 m 26 ls [.int r_2])
    refine lv_if_eq (tgt := 35) hx hb d_M_clear_26 (by decide) (fun cd => ?_) (fun cd => ?_)
    · have hf := it_e cd hf
      refine lv_iload_n hx hb d_M_clear_35 rfl (lv_at hl 2 rfl) ?_
      cases some_e hf
      exact k_iret C w d_M_clear_36
    · have hf := if_e cd hf
      obtain ⟨x_3, ex_3⟩ : ∃ y : Int32, y = (x2 + 1) := ⟨_, rfl⟩
      have hf := lt_e ex_3 hf
      refine lv_iinc (v := x_3) (lv' := [(2, .int x_3), (0, .ref (q 0)), (1, .int x1)]) hx hb d_M_clear_29 hl (k := 2) rfl (by rw [ex_3]; rfl) (by decide) rfl (fun ls hl => ?_)
      refine lv_goto (tgt := 12) hx hb d_M_clear_32 (by decide) ?_
      exact hk12 x1 x_3  _ _ _ hf w (lv_sub hl [1, 2, 0] rfl)
set_option maxHeartbeats 4000000 in
set_option maxRecDepth 20000 in
theorem t_M_clear_12 {r : Int32} {σ : St} (C : Cx g A p s m av meth c prog_13_method_94_code 3 "BellHammerModel" (some .int))  : ∀ (n : Nat) (x1 : Int32) (x2 : Int32) (H : Heap) (locs : List Loc) (ls : Array Slot), f_M_clear_12   n x1 x2 σ = some r → Wd g (wM g q) A s σ H locs → lv_has ls 3 [(0, .ref (q 0)), (1, .int x1), (2, .int x2)] → WK p l e s m av below meth c 4 g (wM g q) A (some (.int r)) σ H locs (F0 m 12 ls []) := by
  intro n
  induction n with
  | zero => intro x1 x2 H locs ls hf; exact absurd hf (by intro z; cases z)
  | succ n ih => intro x1 x2 H locs ls hf w hl; exact t_M_clear_12b C  ih hf w hl
set_option maxHeartbeats 4000000 in
set_option maxRecDepth 20000 in
theorem c_M_clear {l : Launch} {g : GX} {q : Nat → Nat} {x1 : Int32}  {σ : St} {r : Int32} (hf : f_M_clear  x1 σ = some r) : KK l y_M_clear prog_13_method_94_code 3 (some .int) 4 g (wM g q) σ [.ref (q 0), .int x1] (some (.int r)) (wM g q) σ := by
  refine KK_of (plainFor_of_name (by decide)) (Nat.le_of_ble_eq_true rfl) (fun p e s m below meth c A ls C w hl => ?_)
  have hl : lv_has ls 3 [(0, .ref (q 0)), (1, .int x1)] := hl
  obtain ⟨hx, hb, hml, hown, hts, hK, hA, hZ, hlocks, hr, hN⟩ := id C
  unfold f_M_clear at hf
  refine lv_aload_n hx hb d_M_clear_0 rfl (lv_at hl 0 rfl) ?_
  refine lv_iload_n hx hb d_M_clear_1 rfl (lv_at hl 1 rfl) ?_
  obtain ⟨r_2, h_1, hf⟩ := bp_e hf
  refine k_callV (As := [.int x1]) (rest := []) C w (c_M_isTrier (q := q) h_1) cv_M_isTrier k1530 (mr_0 C w) (by decide) hl.1 rfl (Nat.le_of_ble_eq_true rfl) d_M_clear_2 (fun H locs w => ?_)
  show WK p l e s m _ below meth c 4 g (wM g q) A (some (.int r)) σ H locs (F0 m 5 ls [.int r_2])
  refine lv_if_ne (tgt := 10) hx hb d_M_clear_5 (by decide) (fun cd => ?_) (fun cd => ?_)
  · have hf := if_e cd hf
    refine lv_iconst (v := (-1)) hx hb d_M_clear_10 (by decide) ?_
    refine lv_istore_n (lv' := [(2, .int (-1)), (0, .ref (q 0)), (1, .int x1)]) hx hb d_M_clear_11 rfl hl (by decide) rfl (fun ls hl => ?_)
    exact t_M_clear_12 C  FU x1 (-1)  _ _ _ hf w (lv_sub hl [1, 2, 0] rfl)
  · have hf := it_e cd hf
    refine lv_iconst (v := (-1)) hx hb d_M_clear_8 (by decide) ?_
    cases some_e hf
    exact k_iret C w d_M_clear_9
